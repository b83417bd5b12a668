/-! the first object's reading: contracts -/
def cwL (m : Nat) (v : Int64) (a : mh_A) : mh_A := a.sAL 2 3 9 (vp_updL (a.AL 2 3 9) m v)
section
variable {d e n sl m kt mt j op : Nat} {a a0 a1 : mh_A} {σ σ0 σ1 : ms_S} {f0 : Nat → mi_C} {Q : (Option Value ⊕ Nat) → mi_H → Prop} {g : Nat → Int32} {L : Nat} {v u : Int64} {R : Nat → Int32} {x : Int32}
theorem ms_C_s : ms_C g L (j + 1) σ = if σ.t.k = ms_kc 40 then ms_eb (ms_C g L j (σ.nx g L)) (fun _ σ => ms_need g L (ms_kc 41) σ) else match ms_oc σ.t.k with
    | none => .error σ.t.a
    | some op => if σ.n = 800 then .error σ.t.a else ms_pt g L (ms_E g L j) (ms_C g L j) op σ.n (σ.add.nx g L) := rfl
theorem ms_C_b (h : σ.t.k = ms_kc 40) : ms_C g L (j + 1) σ = ms_eb (ms_C g L j (σ.nx g L)) (fun _ σ => ms_need g L (ms_kc 41) σ) := by rw [ms_C_s, if_pos h]
theorem ms_C_n (h : ¬ σ.t.k = ms_kc 40) (ho : ms_oc σ.t.k = none) : ms_C g L (j + 1) σ = .error σ.t.a := by rw [ms_C_s, if_neg h, ho]
theorem ms_C_8 (h : ¬ σ.t.k = ms_kc 40) (ho : ms_oc σ.t.k = some op) (h8 : σ.n = 800) : ms_C g L (j + 1) σ = .error σ.t.a := by
  rw [ms_C_s, if_neg h, ho]
  show (if σ.n = 800 then _ else _) = _
  rw [if_pos h8]
theorem ms_C_o (h : ¬ σ.t.k = ms_kc 40) (ho : ms_oc σ.t.k = some op) (h8 : ¬ σ.n = 800) : ms_C g L (j + 1) σ = ms_pt g L (ms_E g L j) (ms_C g L j) op σ.n (σ.add.nx g L) := by
  rw [ms_C_s, if_neg h, ho]
  show (if σ.n = 800 then _ else _) = _
  rw [if_neg h8]
theorem cwL_AL {i : Nat} : (cwL m v a).AL 2 3 9 i = if i = m then v else a.AL 2 3 9 i := by
  show mh_u a.AL 2 3 9 (vp_updL (a.AL 2 3 9) m v) 2 3 9 i = _
  rw [mh_u_at]
  simp [vp_updL]
theorem cB.wL (h : cB a m R v) : cB (cwL m u a) m R u := ⟨h.1, by rw [cwL_AL, if_pos rfl]⟩
theorem cst.wL (h : cst a g L σ) : cst (cwL m u a) g L σ := h
theorem cgo.wL (h : cgo a0 σ0 a σ) (hm : σ0.n ≤ m) : cgo a0 σ0 (cwL m u a) σ := ⟨⟨fun c p k hc => ⟨(h.1.1 c p k hc).1, (h.1.1 c p k hc).2.1, (h.1.1 c p k hc).2.2.1, (mh_u_c (by omega)).trans (h.1.1 c p k hc).2.2.2⟩, h.1.2.1, h.1.2.2.1, h.1.2.2.2⟩, fun m' hm' => ⟨(h.2.1 m' hm').1, by rw [cwL_AL, if_neg (by omega)]; exact (h.2.1 m' hm').2⟩, h.2.2.1, h.2.2.2⟩
theorem crg.wL {lo hi : Nat} {tb : Nat → ms_N} (h : crg lo hi a tb) (hm : m < lo) : crg lo hi (cwL m u a) tb := h.to (fun m' h1 _ => ⟨fun _ _ => rfl, by rw [cwL_AL, if_neg (by omega)]⟩) (fun _ _ _ => rfl)
theorem co_o0 {l2 : Int32} (hG : cG n sl f0) (hl2 : l2 + 1 = Int32.ofNat (101 - j)) (hd : 2 * j + 3 ≤ e) (IHE : cIE n sl f0 g L j) (IHC : cIC n sl f0 g L j) (h : cst a0 g L σ0) (hk : σ0.t.k = 0) (ok : cokE n sl f0 g L Q a0 σ0 (ms_C g L (j + 1) σ0)) (er : cerE n sl f0 Q a0 (ms_C g L (j + 1) σ0)) : mi_W (e + 11) 37 98 [some (.ref 15), some (.int l2), some (.int 0), none, none, none] [] (n, sl, hc a0 f0) Q := by
  have hn := hG.1
  have hk40 : ¬ σ0.t.k = ms_kc 40 := by rw [hk]; decide
  have hop : ms_oc σ0.t.k = some 0 := by rw [hk]; decide +kernel
  unfold cokE at ok
  unfold cerE at er
  refine b_37_98 _ _ _ (by first | (exact hc_o (by first | assumption | (exact ⟨by decide, rfl⟩))) | assumption | (exact (hc_far (by omega)).trans (by assumption))) (by omega) ?_
  refine cr_node (d := e + 3) hG h (fun h8 y1 v hs hg hv hB => ?_) (fun h8 => ?_)
  · have hsp : ms_C g L (j + 1) σ0 = .ok ((), (σ0.add.nx g L).set σ0.n (0, 0, 0, 0, 0, 0, 0, 0, 0, 0)) := ms_C_o hk40 hop (by omega)
    rw [hk] at hB
    generalize hσ1 : σ0.add.nx g L = σ1 at *
    have hn1 : σ1.n = σ0.n + 1 := by rw [← hσ1]; rfl
    have hr : crg (σ0.n + 1) σ1.n y1 σ1.tb := by rw [hn1]; exact crg.nil
    have hx := ix_of (w := σ0.n) (m := 800) (by omega) (by omega)
    have hle1 := hs.2.1.2
    refine b_37_102 (t8 := 347) _ _ _ (by decide +kernel) ?_
    refine b_37_347 _ _ _ ?_ ?_
    · intro z347
      refine b_37_367 _ _ _ _ _ _ (by first | (exact hc_o (by first | assumption | (exact ⟨by decide, rfl⟩))) | assumption | (exact (hc_far (by omega)).trans (by assumption))) (by omega) (by first | rfl | assumption) (by first | (exact hc_o (by first | assumption | (exact ⟨by decide, rfl⟩))) | assumption | (exact (hc_far (by omega)).trans (by assumption))) (by omega) (by first | rfl | assumption) (by first | (exact hc_o (by first | assumption | (exact ⟨by decide, rfl⟩))) | assumption | (exact (hc_far (by omega)).trans (by assumption))) (by omega) (by first | rfl | assumption) (by first | (exact hc_o (by first | assumption | (exact ⟨by decide, rfl⟩))) | assumption | (exact (hc_far (by omega)).trans (by assumption))) (by omega) (by first | rfl | assumption) (by first | (exact hc_ai (by omega) (by first | assumption | (exact (ht9 (by assumption)).2.1) | (exact (ht9 (by assumption)).2.2.1) | (exact (ht9 (by assumption)).2.2.2) | rfl) (by decide)) | assumption | (exact (hc_far (by omega)).trans (by assumption))) (by omega) (by first | assumption | (exact ix_of (by omega) (by omega)) | (exact ⟨by decide, rfl, by decide⟩)) ?_
      refine hw_Q (hw_AI (by omega) (by first | assumption | (exact (ht9 (by assumption)).2.1) | (exact (ht9 (by assumption)).2.2.1) | (exact (ht9 (by assumption)).2.2.2) | rfl) (by decide)) ?_
      have h11 := hs.2.1.1
      show Q (.inl (some (.int (Int32.ofNat σ0.n)))) (n, sl, hc (cw 7 σ0.n (y1.I 2 3 11) y1) f0)
      rw [h11]
      have hB := hB.w (k := 7) (v := Int32.ofNat σ1.n)
      have hr := hr.w (k := 7) (m := σ0.n) (v := Int32.ofNat σ1.n) (Nat.lt_succ_self _)
      refine ok _ _ hsp (hs.w.set) ((hg.w (Nat.le_refl _)).set (Nat.le_refl _)) (hr.one ⟨fun k hk9 h7 => ?_, ?_, ?_⟩ ?_ (by omega)) (hB.1 7 (by omega)) (by show σ0.n < σ1.n; omega)
      · rcases lt9 hk9 with rfl | rfl | rfl | rfl | rfl | rfl | rfl | rfl | rfl <;> first | exact absurd rfl h7 | exact hB.1 _ hk9
      · refine hB.2.trans (hv.trans ?_)
        rw [hk]
        rfl
      · exact (hB.1 7 (by omega)).trans (congrArg Int32.ofNat (by omega : σ1.n = σ0.n + 1))
      · exact Or.inl rfl
    · intro z347
      first | (exact absurd z347 (by decide)) | (exact absurd (by decide) z347) | (exact absurd rfl z347) | (exact absurd z347 (of_nn (by omega))) | (exact absurd (of_np (by omega)) z347) | omega
  · exact cEr.kc (by decide +kernel) (by omega) (er _ (ms_C_8 hk40 hop h8))
theorem co_o1 {l2 : Int32} (hG : cG n sl f0) (hl2 : l2 + 1 = Int32.ofNat (101 - j)) (hd : 2 * j + 3 ≤ e) (IHE : cIE n sl f0 g L j) (IHC : cIC n sl f0 g L j) (h : cst a0 g L σ0) (hk : σ0.t.k = 1) (ok : cokE n sl f0 g L Q a0 σ0 (ms_C g L (j + 1) σ0)) (er : cerE n sl f0 Q a0 (ms_C g L (j + 1) σ0)) : mi_W (e + 11) 37 98 [some (.ref 15), some (.int l2), some (.int 1), none, none, none] [] (n, sl, hc a0 f0) Q := by
  have hn := hG.1
  have hk40 : ¬ σ0.t.k = ms_kc 40 := by rw [hk]; decide
  have hop : ms_oc σ0.t.k = some 1 := by rw [hk]; decide +kernel
  unfold cokE at ok
  unfold cerE at er
  refine b_37_98 _ _ _ (by first | (exact hc_o (by first | assumption | (exact ⟨by decide, rfl⟩))) | assumption | (exact (hc_far (by omega)).trans (by assumption))) (by omega) ?_
  refine cr_node (d := e + 3) hG h (fun h8 y1 v hs hg hv hB => ?_) (fun h8 => ?_)
  · have hsp : ms_C g L (j + 1) σ0 = ms_PN g L (σ0.add.nx g L) (fun a o b t σ => ms_eb (ms_E g L j false σ) (fun _ σ1 => ms_eb (ms_C g L j σ1) (fun _ σ2 => .ok ((), σ2.set σ0.n (o, a, b, t, 0, σ.n, σ1.n, 0, 0, 0))))) := ms_C_o hk40 hop (by omega)
    rw [hk] at hB
    generalize hσ1 : σ0.add.nx g L = σ1 at *
    have hn1 : σ1.n = σ0.n + 1 := by rw [← hσ1]; rfl
    have hr : crg (σ0.n + 1) σ1.n y1 σ1.tb := by rw [hn1]; exact crg.nil
    have hx := ix_of (w := σ0.n) (m := 800) (by omega) (by omega)
    have hle1 := hs.2.1.2
    refine b_37_102 (t8 := 148) _ _ _ (by decide +kernel) ?_
    refine b_37_148 _ _ _ (by first | (exact hc_o (by first | assumption | (exact ⟨by decide, rfl⟩))) | assumption | (exact (hc_far (by omega)).trans (by assumption))) (by omega) ?_
    refine cr_pn (e := e + 1) hG hs hg hB hr (Nat.le_refl _) (by omega) (fun i2 o i3 i4 σ2 y2 hpn ho hs hg hB hr hnn2 => ?_) (fun w hw => ?_)
    · rw [hpn] at hsp
      have hle2 := hs.2.1.2
      refine b_37_153 _ _ _ (by first | (exact hc_o (by first | assumption | (exact ⟨by decide, rfl⟩))) | assumption | (exact (hc_far (by omega)).trans (by assumption))) (by omega) (by first | rfl | assumption) (by first | (exact hc_o (by first | assumption | (exact ⟨by decide, rfl⟩))) | assumption | (exact (hc_far (by omega)).trans (by assumption))) (by omega) (by first | rfl | assumption) (by first | (exact hc_o (by first | assumption | (exact ⟨by decide, rfl⟩))) | assumption | (exact (hc_far (by omega)).trans (by assumption))) (by omega) ?_
      rw [hl2]
      refine IHE.1 (e + 10) _ _ _ (by omega) hs (fun y3 σ3 hok3 hs gg hrE e7 hlt3 => ?_) (fun w hw => ?_)
      · rw [hok3, ms_eb_ok] at hsp
        have hB := hB.go gg (by omega)
        have hr := (hr.go gg (Nat.le_refl _)).join hrE (by omega)
        have hg := hg.trans gg
        have hle3 := hs.2.1.2
        have hge3 := gg.2.2.1.1
        refine b_37_168 _ _ _ _ _ _ (by first | (exact hc_ai (by omega) (by first | assumption | (exact (ht9 (by assumption)).2.1) | (exact (ht9 (by assumption)).2.2.1) | (exact (ht9 (by assumption)).2.2.2) | rfl) (by decide)) | assumption | (exact (hc_far (by omega)).trans (by assumption))) (by omega) (by first | assumption | (exact ix_of (by omega) (by omega)) | (exact ⟨by decide, rfl, by decide⟩)) ?_
        refine hw_W (hw_AI (by omega) (by first | assumption | (exact (ht9 (by assumption)).2.1) | (exact (ht9 (by assumption)).2.2.1) | (exact (ht9 (by assumption)).2.2.2) | rfl) (by decide)) ?_
        show mi_W _ _ _ _ _ (n, sl, hc (cw 1 σ0.n (Int32.ofNat σ2.n) y3) f0) _
        have hB := hB.w (k := 1) (v := Int32.ofNat σ2.n)
        have hs := hs.w (k := 1) (m := σ0.n) (v := Int32.ofNat σ2.n)
        have hg := hg.w (k := 1) (m := σ0.n) (v := Int32.ofNat σ2.n) (by omega)
        have hr := hr.w (k := 1) (m := σ0.n) (v := Int32.ofNat σ2.n) (Nat.lt_succ_self _)
        have e7 := (cw_ne (k := 1) (m := σ0.n) (v := Int32.ofNat σ2.n) (a := y3) (k' := 7) (m' := σ2.n) (fun z => by omega)).trans e7
        generalize cw 1 σ0.n (Int32.ofNat σ2.n) y3 = y3 at *
        refine b_37_347 _ _ _ ?_ ?_
        · intro z347
          first | (exact absurd z347 (by decide)) | (exact absurd (by decide) z347) | (exact absurd rfl z347) | (exact absurd z347 (of_nn (by omega))) | (exact absurd (of_np (by omega)) z347) | omega
        · intro z347
          refine b_37_351 _ _ _ (by first | (exact hc_o (by first | assumption | (exact ⟨by decide, rfl⟩))) | assumption | (exact (hc_far (by omega)).trans (by assumption))) (by omega) (by first | rfl | assumption) (by first | (exact hc_o (by first | assumption | (exact ⟨by decide, rfl⟩))) | assumption | (exact (hc_far (by omega)).trans (by assumption))) (by omega) (by first | rfl | assumption) (by first | (exact hc_o (by first | assumption | (exact ⟨by decide, rfl⟩))) | assumption | (exact (hc_far (by omega)).trans (by assumption))) (by omega) ?_
          rw [hl2]
          refine IHC (e + 10) _ _ _ (by omega) hs (fun y4 σ4 hok4 hs gg hrE e7 hlt4 => ?_) (fun w hw => ?_)
          · rw [hok4, ms_eb_ok] at hsp
            have hB := hB.go gg (by omega)
            have hr := (hr.go gg (Nat.le_refl _)).join hrE (by omega)
            have hg := hg.trans gg
            have hle4 := hs.2.1.2
            have hge4 := gg.2.2.1.1
            refine b_37_366 _ _ _ _ _ _ (by first | (exact hc_ai (by omega) (by first | assumption | (exact (ht9 (by assumption)).2.1) | (exact (ht9 (by assumption)).2.2.1) | (exact (ht9 (by assumption)).2.2.2) | rfl) (by decide)) | assumption | (exact (hc_far (by omega)).trans (by assumption))) (by omega) (by first | assumption | (exact ix_of (by omega) (by omega)) | (exact ⟨by decide, rfl, by decide⟩)) ?_
            refine hw_W (hw_AI (by omega) (by first | assumption | (exact (ht9 (by assumption)).2.1) | (exact (ht9 (by assumption)).2.2.1) | (exact (ht9 (by assumption)).2.2.2) | rfl) (by decide)) ?_
            show mi_W _ _ _ _ _ (n, sl, hc (cw 3 σ0.n (Int32.ofNat σ3.n) y4) f0) _
            have hB := hB.w (k := 3) (v := Int32.ofNat σ3.n)
            have hs := hs.w (k := 3) (m := σ0.n) (v := Int32.ofNat σ3.n)
            have hg := hg.w (k := 3) (m := σ0.n) (v := Int32.ofNat σ3.n) (by omega)
            have hr := hr.w (k := 3) (m := σ0.n) (v := Int32.ofNat σ3.n) (Nat.lt_succ_self _)
            have e7 := (cw_ne (k := 3) (m := σ0.n) (v := Int32.ofNat σ3.n) (a := y4) (k' := 7) (m' := σ3.n) (fun z => by omega)).trans e7
            generalize cw 3 σ0.n (Int32.ofNat σ3.n) y4 = y4 at *
            refine b_37_367 _ _ _ _ _ _ (by first | (exact hc_o (by first | assumption | (exact ⟨by decide, rfl⟩))) | assumption | (exact (hc_far (by omega)).trans (by assumption))) (by omega) (by first | rfl | assumption) (by first | (exact hc_o (by first | assumption | (exact ⟨by decide, rfl⟩))) | assumption | (exact (hc_far (by omega)).trans (by assumption))) (by omega) (by first | rfl | assumption) (by first | (exact hc_o (by first | assumption | (exact ⟨by decide, rfl⟩))) | assumption | (exact (hc_far (by omega)).trans (by assumption))) (by omega) (by first | rfl | assumption) (by first | (exact hc_o (by first | assumption | (exact ⟨by decide, rfl⟩))) | assumption | (exact (hc_far (by omega)).trans (by assumption))) (by omega) (by first | rfl | assumption) (by first | (exact hc_ai (by omega) (by first | assumption | (exact (ht9 (by assumption)).2.1) | (exact (ht9 (by assumption)).2.2.1) | (exact (ht9 (by assumption)).2.2.2) | rfl) (by decide)) | assumption | (exact (hc_far (by omega)).trans (by assumption))) (by omega) (by first | assumption | (exact ix_of (by omega) (by omega)) | (exact ⟨by decide, rfl, by decide⟩)) ?_
            refine hw_Q (hw_AI (by omega) (by first | assumption | (exact (ht9 (by assumption)).2.1) | (exact (ht9 (by assumption)).2.2.1) | (exact (ht9 (by assumption)).2.2.2) | rfl) (by decide)) ?_
            have h11 := hs.2.1.1
            show Q (.inl (some (.int (Int32.ofNat σ0.n)))) (n, sl, hc (cw 7 σ0.n (y4.I 2 3 11) y4) f0)
            rw [h11]
            have hB := hB.w (k := 7) (v := Int32.ofNat σ4.n)
            have hr := hr.w (k := 7) (m := σ0.n) (v := Int32.ofNat σ4.n) (Nat.lt_succ_self _)
            have e7 := (cw_ne (k := 7) (m := σ0.n) (v := Int32.ofNat σ4.n) (a := y4) (k' := 7) (m' := σ3.n) (fun z => by omega)).trans e7
            rcases ho with rfl | rfl
            · skip
              refine ok _ _ hsp (hs.w.set) ((hg.w (Nat.le_refl _)).set (Nat.le_refl _)) (hr.one ⟨fun k hk9 h7 => ?_, ?_, ?_⟩ ?_ (by omega)) (hB.1 7 (by omega)) (by show σ0.n < σ4.n; omega)
              · rcases lt9 hk9 with rfl | rfl | rfl | rfl | rfl | rfl | rfl | rfl | rfl <;> first | exact absurd rfl h7 | exact hB.1 _ hk9
              · refine hB.2.trans (hv.trans ?_)
                rw [hk]
                rfl
              · exact (hB.1 7 (by omega)).trans (e7.symm.trans (if_neg (show ¬ σ3.n = 0 by omega)).symm)
              · exact Or.inr ⟨show σ0.n < σ3.n by omega, show σ3.n < σ4.n by omega⟩
            · skip
              refine ok _ _ hsp (hs.w.set) ((hg.w (Nat.le_refl _)).set (Nat.le_refl _)) (hr.one ⟨fun k hk9 h7 => ?_, ?_, ?_⟩ ?_ (by omega)) (hB.1 7 (by omega)) (by show σ0.n < σ4.n; omega)
              · rcases lt9 hk9 with rfl | rfl | rfl | rfl | rfl | rfl | rfl | rfl | rfl <;> first | exact absurd rfl h7 | exact hB.1 _ hk9
              · refine hB.2.trans (hv.trans ?_)
                rw [hk]
                rfl
              · exact (hB.1 7 (by omega)).trans (e7.symm.trans (if_neg (show ¬ σ3.n = 0 by omega)).symm)
              · exact Or.inr ⟨show σ0.n < σ3.n by omega, show σ3.n < σ4.n by omega⟩
          · exact cEr.kc (by decide +kernel) (by omega) ((er w (by rw [hsp, hw]; rfl)).go hg.1)
      · exact cEr.kc (by decide +kernel) (by omega) ((er w (by rw [hsp, hw]; rfl)).go hg.1)
    · exact cEr.kc (by decide +kernel) (by omega) (er w (by rw [hsp]; exact hw _))
  · exact cEr.kc (by decide +kernel) (by omega) (er _ (ms_C_8 hk40 hop h8))
theorem co_o3 {l2 : Int32} (hG : cG n sl f0) (hl2 : l2 + 1 = Int32.ofNat (101 - j)) (hd : 2 * j + 3 ≤ e) (IHE : cIE n sl f0 g L j) (IHC : cIC n sl f0 g L j) (h : cst a0 g L σ0) (hk : σ0.t.k = 4) (ok : cokE n sl f0 g L Q a0 σ0 (ms_C g L (j + 1) σ0)) (er : cerE n sl f0 Q a0 (ms_C g L (j + 1) σ0)) : mi_W (e + 11) 37 98 [some (.ref 15), some (.int l2), some (.int 4), none, none, none] [] (n, sl, hc a0 f0) Q := by
  have hn := hG.1
  have hk40 : ¬ σ0.t.k = ms_kc 40 := by rw [hk]; decide
  have hop : ms_oc σ0.t.k = some 3 := by rw [hk]; decide +kernel
  unfold cokE at ok
  unfold cerE at er
  refine b_37_98 _ _ _ (by first | (exact hc_o (by first | assumption | (exact ⟨by decide, rfl⟩))) | assumption | (exact (hc_far (by omega)).trans (by assumption))) (by omega) ?_
  refine cr_node (d := e + 3) hG h (fun h8 y1 v hs hg hv hB => ?_) (fun h8 => ?_)
  · have hsp : ms_C g L (j + 1) σ0 = ms_eb (ms_E g L j true (σ0.add.nx g L)) (fun _ σ1 => ms_eb (ms_C g L j σ1) (fun _ σ2 => ms_eb (ms_C g L j σ2) (fun _ σ3 => .ok ((), σ3.set σ0.n (3, 0, 0, 0, 0, (σ0.add.nx g L).n, σ1.n, σ2.n, 0, 0))))) := ms_C_o hk40 hop (by omega)
    rw [hk] at hB
    generalize hσ1 : σ0.add.nx g L = σ1 at *
    have hn1 : σ1.n = σ0.n + 1 := by rw [← hσ1]; rfl
    have hr : crg (σ0.n + 1) σ1.n y1 σ1.tb := by rw [hn1]; exact crg.nil
    have hx := ix_of (w := σ0.n) (m := 800) (by omega) (by omega)
    have hle1 := hs.2.1.2
    refine b_37_102 (t8 := 293) _ _ _ (by decide +kernel) ?_
    refine b_37_293 _ _ _ (by first | (exact hc_o (by first | assumption | (exact ⟨by decide, rfl⟩))) | assumption | (exact (hc_far (by omega)).trans (by assumption))) (by omega) (by first | rfl | assumption) (by first | (exact hc_o (by first | assumption | (exact ⟨by decide, rfl⟩))) | assumption | (exact (hc_far (by omega)).trans (by assumption))) (by omega) (by first | rfl | assumption) (by first | (exact hc_o (by first | assumption | (exact ⟨by decide, rfl⟩))) | assumption | (exact (hc_far (by omega)).trans (by assumption))) (by omega) ?_
    rw [hl2]
    refine IHE.2 (e + 10) _ _ _ (by omega) hs (fun y2 σ2 hok2 hs gg hrE e7 hlt2 => ?_) (fun w hw => ?_)
    · rw [hok2, ms_eb_ok] at hsp
      have hB := hB.go gg (by omega)
      have hr := (hr.go gg (Nat.le_refl _)).join hrE (by omega)
      have hg := hg.trans gg
      have hle2 := hs.2.1.2
      have hge2 := gg.2.2.1.1
      refine b_37_308 _ _ _ _ _ _ (by first | (exact hc_ai (by omega) (by first | assumption | (exact (ht9 (by assumption)).2.1) | (exact (ht9 (by assumption)).2.2.1) | (exact (ht9 (by assumption)).2.2.2) | rfl) (by decide)) | assumption | (exact (hc_far (by omega)).trans (by assumption))) (by omega) (by first | assumption | (exact ix_of (by omega) (by omega)) | (exact ⟨by decide, rfl, by decide⟩)) (by first | (exact (congrFun (hw_AI (by omega) (by first | assumption | (exact (ht9 (by assumption)).2.1) | (exact (ht9 (by assumption)).2.2.1) | (exact (ht9 (by assumption)).2.2.2) | rfl) (by decide)) _).trans (hc_o (by first | assumption | (exact ⟨by decide, rfl⟩)))) | assumption | (exact (hc_far (by omega)).trans (by assumption))) (by omega) (by first | rfl | assumption) (by first | (exact (congrFun (hw_AI (by omega) (by first | assumption | (exact (ht9 (by assumption)).2.1) | (exact (ht9 (by assumption)).2.2.1) | (exact (ht9 (by assumption)).2.2.2) | rfl) (by decide)) _).trans (hc_o (by first | assumption | (exact ⟨by decide, rfl⟩)))) | assumption | (exact (hc_far (by omega)).trans (by assumption))) (by omega) (by first | rfl | assumption) (by first | (exact (congrFun (hw_AI (by omega) (by first | assumption | (exact (ht9 (by assumption)).2.1) | (exact (ht9 (by assumption)).2.2.1) | (exact (ht9 (by assumption)).2.2.2) | rfl) (by decide)) _).trans (hc_o (by first | assumption | (exact ⟨by decide, rfl⟩)))) | assumption | (exact (hc_far (by omega)).trans (by assumption))) (by omega) ?_
      refine hw_W (hw_AI (by omega) (by first | assumption | (exact (ht9 (by assumption)).2.1) | (exact (ht9 (by assumption)).2.2.1) | (exact (ht9 (by assumption)).2.2.2) | rfl) (by decide)) ?_
      show mi_W _ _ _ _ _ (n, sl, hc (cw 1 σ0.n (Int32.ofNat σ1.n) y2) f0) _
      have hB := hB.w (k := 1) (v := Int32.ofNat σ1.n)
      have hs := hs.w (k := 1) (m := σ0.n) (v := Int32.ofNat σ1.n)
      have hg := hg.w (k := 1) (m := σ0.n) (v := Int32.ofNat σ1.n) (by omega)
      have hr := hr.w (k := 1) (m := σ0.n) (v := Int32.ofNat σ1.n) (Nat.lt_succ_self _)
      have e7 := (cw_ne (k := 1) (m := σ0.n) (v := Int32.ofNat σ1.n) (a := y2) (k' := 7) (m' := σ1.n) (fun z => by omega)).trans e7
      generalize cw 1 σ0.n (Int32.ofNat σ1.n) y2 = y2 at *
      rw [hl2]
      refine IHC (e + 10) _ _ _ (by omega) hs (fun y3 σ3 hok3 hs gg hrE e7 hlt3 => ?_) (fun w hw => ?_)
      · rw [hok3, ms_eb_ok] at hsp
        have hB := hB.go gg (by omega)
        have hr := (hr.go gg (Nat.le_refl _)).join hrE (by omega)
        have hg := hg.trans gg
        have hle3 := hs.2.1.2
        have hge3 := gg.2.2.1.1
        refine b_37_324 _ _ _ _ _ _ (by first | (exact hc_ai (by omega) (by first | assumption | (exact (ht9 (by assumption)).2.1) | (exact (ht9 (by assumption)).2.2.1) | (exact (ht9 (by assumption)).2.2.2) | rfl) (by decide)) | assumption | (exact (hc_far (by omega)).trans (by assumption))) (by omega) (by first | assumption | (exact ix_of (by omega) (by omega)) | (exact ⟨by decide, rfl, by decide⟩)) ?_
        refine hw_W (hw_AI (by omega) (by first | assumption | (exact (ht9 (by assumption)).2.1) | (exact (ht9 (by assumption)).2.2.1) | (exact (ht9 (by assumption)).2.2.2) | rfl) (by decide)) ?_
        show mi_W _ _ _ _ _ (n, sl, hc (cw 2 σ0.n (Int32.ofNat σ2.n) y3) f0) _
        have hB := hB.w (k := 2) (v := Int32.ofNat σ2.n)
        have hs := hs.w (k := 2) (m := σ0.n) (v := Int32.ofNat σ2.n)
        have hg := hg.w (k := 2) (m := σ0.n) (v := Int32.ofNat σ2.n) (by omega)
        have hr := hr.w (k := 2) (m := σ0.n) (v := Int32.ofNat σ2.n) (Nat.lt_succ_self _)
        have e7 := (cw_ne (k := 2) (m := σ0.n) (v := Int32.ofNat σ2.n) (a := y3) (k' := 7) (m' := σ2.n) (fun z => by omega)).trans e7
        generalize cw 2 σ0.n (Int32.ofNat σ2.n) y3 = y3 at *
        refine b_37_347 _ _ _ ?_ ?_
        · intro z347
          first | (exact absurd z347 (by decide)) | (exact absurd (by decide) z347) | (exact absurd rfl z347) | (exact absurd z347 (of_nn (by omega))) | (exact absurd (of_np (by omega)) z347) | omega
        · intro z347
          refine b_37_351 _ _ _ (by first | (exact hc_o (by first | assumption | (exact ⟨by decide, rfl⟩))) | assumption | (exact (hc_far (by omega)).trans (by assumption))) (by omega) (by first | rfl | assumption) (by first | (exact hc_o (by first | assumption | (exact ⟨by decide, rfl⟩))) | assumption | (exact (hc_far (by omega)).trans (by assumption))) (by omega) (by first | rfl | assumption) (by first | (exact hc_o (by first | assumption | (exact ⟨by decide, rfl⟩))) | assumption | (exact (hc_far (by omega)).trans (by assumption))) (by omega) ?_
          rw [hl2]
          refine IHC (e + 10) _ _ _ (by omega) hs (fun y4 σ4 hok4 hs gg hrE e7 hlt4 => ?_) (fun w hw => ?_)
          · rw [hok4, ms_eb_ok] at hsp
            have hB := hB.go gg (by omega)
            have hr := (hr.go gg (Nat.le_refl _)).join hrE (by omega)
            have hg := hg.trans gg
            have hle4 := hs.2.1.2
            have hge4 := gg.2.2.1.1
            refine b_37_366 _ _ _ _ _ _ (by first | (exact hc_ai (by omega) (by first | assumption | (exact (ht9 (by assumption)).2.1) | (exact (ht9 (by assumption)).2.2.1) | (exact (ht9 (by assumption)).2.2.2) | rfl) (by decide)) | assumption | (exact (hc_far (by omega)).trans (by assumption))) (by omega) (by first | assumption | (exact ix_of (by omega) (by omega)) | (exact ⟨by decide, rfl, by decide⟩)) ?_
            refine hw_W (hw_AI (by omega) (by first | assumption | (exact (ht9 (by assumption)).2.1) | (exact (ht9 (by assumption)).2.2.1) | (exact (ht9 (by assumption)).2.2.2) | rfl) (by decide)) ?_
            show mi_W _ _ _ _ _ (n, sl, hc (cw 3 σ0.n (Int32.ofNat σ3.n) y4) f0) _
            have hB := hB.w (k := 3) (v := Int32.ofNat σ3.n)
            have hs := hs.w (k := 3) (m := σ0.n) (v := Int32.ofNat σ3.n)
            have hg := hg.w (k := 3) (m := σ0.n) (v := Int32.ofNat σ3.n) (by omega)
            have hr := hr.w (k := 3) (m := σ0.n) (v := Int32.ofNat σ3.n) (Nat.lt_succ_self _)
            have e7 := (cw_ne (k := 3) (m := σ0.n) (v := Int32.ofNat σ3.n) (a := y4) (k' := 7) (m' := σ3.n) (fun z => by omega)).trans e7
            generalize cw 3 σ0.n (Int32.ofNat σ3.n) y4 = y4 at *
            refine b_37_367 _ _ _ _ _ _ (by first | (exact hc_o (by first | assumption | (exact ⟨by decide, rfl⟩))) | assumption | (exact (hc_far (by omega)).trans (by assumption))) (by omega) (by first | rfl | assumption) (by first | (exact hc_o (by first | assumption | (exact ⟨by decide, rfl⟩))) | assumption | (exact (hc_far (by omega)).trans (by assumption))) (by omega) (by first | rfl | assumption) (by first | (exact hc_o (by first | assumption | (exact ⟨by decide, rfl⟩))) | assumption | (exact (hc_far (by omega)).trans (by assumption))) (by omega) (by first | rfl | assumption) (by first | (exact hc_o (by first | assumption | (exact ⟨by decide, rfl⟩))) | assumption | (exact (hc_far (by omega)).trans (by assumption))) (by omega) (by first | rfl | assumption) (by first | (exact hc_ai (by omega) (by first | assumption | (exact (ht9 (by assumption)).2.1) | (exact (ht9 (by assumption)).2.2.1) | (exact (ht9 (by assumption)).2.2.2) | rfl) (by decide)) | assumption | (exact (hc_far (by omega)).trans (by assumption))) (by omega) (by first | assumption | (exact ix_of (by omega) (by omega)) | (exact ⟨by decide, rfl, by decide⟩)) ?_
            refine hw_Q (hw_AI (by omega) (by first | assumption | (exact (ht9 (by assumption)).2.1) | (exact (ht9 (by assumption)).2.2.1) | (exact (ht9 (by assumption)).2.2.2) | rfl) (by decide)) ?_
            have h11 := hs.2.1.1
            show Q (.inl (some (.int (Int32.ofNat σ0.n)))) (n, sl, hc (cw 7 σ0.n (y4.I 2 3 11) y4) f0)
            rw [h11]
            have hB := hB.w (k := 7) (v := Int32.ofNat σ4.n)
            have hr := hr.w (k := 7) (m := σ0.n) (v := Int32.ofNat σ4.n) (Nat.lt_succ_self _)
            have e7 := (cw_ne (k := 7) (m := σ0.n) (v := Int32.ofNat σ4.n) (a := y4) (k' := 7) (m' := σ3.n) (fun z => by omega)).trans e7
            refine ok _ _ hsp (hs.w.set) ((hg.w (Nat.le_refl _)).set (Nat.le_refl _)) (hr.one ⟨fun k hk9 h7 => ?_, ?_, ?_⟩ ?_ (by omega)) (hB.1 7 (by omega)) (by show σ0.n < σ4.n; omega)
            · rcases lt9 hk9 with rfl | rfl | rfl | rfl | rfl | rfl | rfl | rfl | rfl <;> first | exact absurd rfl h7 | exact hB.1 _ hk9
            · refine hB.2.trans (hv.trans ?_)
              rw [hk]
              rfl
            · exact (hB.1 7 (by omega)).trans (e7.symm.trans (if_neg (show ¬ σ3.n = 0 by omega)).symm)
            · exact Or.inr ⟨show σ0.n < σ3.n by omega, show σ3.n < σ4.n by omega⟩
          · exact cEr.kc (by decide +kernel) (by omega) ((er w (by rw [hsp, hw]; rfl)).go hg.1)
      · exact cEr.kc (by decide +kernel) (by omega) ((er w (by rw [hsp, hw]; rfl)).go hg.1)
    · exact cEr.kc (by decide +kernel) (by omega) ((er w (by rw [hsp, hw]; rfl)).go hg.1)
  · exact cEr.kc (by decide +kernel) (by omega) (er _ (ms_C_8 hk40 hop h8))
theorem co_o4 {l2 : Int32} (hG : cG n sl f0) (hl2 : l2 + 1 = Int32.ofNat (101 - j)) (hd : 2 * j + 3 ≤ e) (IHE : cIE n sl f0 g L j) (IHC : cIC n sl f0 g L j) (h : cst a0 g L σ0) (hk : σ0.t.k = 5) (ok : cokE n sl f0 g L Q a0 σ0 (ms_C g L (j + 1) σ0)) (er : cerE n sl f0 Q a0 (ms_C g L (j + 1) σ0)) : mi_W (e + 11) 37 98 [some (.ref 15), some (.int l2), some (.int 5), none, none, none] [] (n, sl, hc a0 f0) Q := by
  have hn := hG.1
  have hk40 : ¬ σ0.t.k = ms_kc 40 := by rw [hk]; decide
  have hop : ms_oc σ0.t.k = some 4 := by rw [hk]; decide +kernel
  unfold cokE at ok
  unfold cerE at er
  refine b_37_98 _ _ _ (by first | (exact hc_o (by first | assumption | (exact ⟨by decide, rfl⟩))) | assumption | (exact (hc_far (by omega)).trans (by assumption))) (by omega) ?_
  refine cr_node (d := e + 3) hG h (fun h8 y1 v hs hg hv hB => ?_) (fun h8 => ?_)
  · have hsp : ms_C g L (j + 1) σ0 = ms_eb (ms_need g L (ms_kc 51) (σ0.add.nx g L)) (fun _ σ => ms_eb (ms_as g L (ms_E g L j) (ms_C g L j) 8 σ) (fun x σ => ms_eb (ms_num g L (σ.nx g L)) (fun v σ => ms_eb (ms_C g L j σ) (fun _ σ1 => .ok ((), σ1.set σ0.n (4, 0, 0, 0, v, x, σ.n, 0, 0, 0)))))) := ms_C_o hk40 hop (by omega)
    rw [hk] at hB
    generalize hσ1 : σ0.add.nx g L = σ1 at *
    have hn1 : σ1.n = σ0.n + 1 := by rw [← hσ1]; rfl
    have hr : crg (σ0.n + 1) σ1.n y1 σ1.tb := by rw [hn1]; exact crg.nil
    have hx := ix_of (w := σ0.n) (m := 800) (by omega) (by omega)
    have hle1 := hs.2.1.2
    refine b_37_102 (t8 := 172) _ _ _ (by decide +kernel) ?_
    refine b_37_172 _ _ _ (by first | (exact hc_o (by first | assumption | (exact ⟨by decide, rfl⟩))) | assumption | (exact (hc_far (by omega)).trans (by assumption))) (by omega) ?_
    refine cr_take (k := 26) (d := e + 3) hG (by omega) hs (fun hne2 y2 hs gg hI2 hJ2 => ?_) (fun w hw => ?_)
    · rw [show ms_need g L (ms_kc 51) σ1 = .ok ((), σ1.nx g L) from hne2, ms_eb_ok] at hsp
      have hB := hB.go gg (by omega)
      have hr := hr.go gg (Nat.le_refl _)
      have hg := hg.trans gg
      generalize hσ2 : σ1.nx g L = σ2 at *
      have hnn2 : σ2.n = σ1.n := by rw [← hσ2, ms_nx_n]
      rw [← hnn2] at hr
      refine b_37_178 _ _ _ ?_
      refine cn_as (m0 := σ0.n) hG hl2 hd IHE IHC 8 y2 σ2 0 1 σ0.n (-1) rfl (Or.inl ⟨rfl, rfl, rfl⟩) (by omega) (hB.1 1 (by omega)) hs (fun z σ3 y3 l5' l6' hz3 h273 hs gg hr3 => ?_) (fun w hw => (er w (by rw [hsp, hw]; rfl)).go hg.1)
      rw [hz3, ms_eb_ok] at hsp
      have hB := (hB.w (k := 1) (v := mz_lk z)).go gg (by omega)
      have hr := ((hr.w (k := 1) (m := σ0.n) (v := mz_lk z) (Nat.lt_succ_self _)).go (σ := σ2) gg (Nat.le_refl _)).join hr3 gg.2.2.1.1
      have hg := (hg.w (k := 1) (m := σ0.n) (v := mz_lk z) (Nat.le_refl _)).trans gg
      have hle3 := hs.2.1.2
      have hge3 := gg.2.2.1.1
      refine b_37_235 _ _ _ (by first | (exact hc_o (by first | assumption | (exact ⟨by decide, rfl⟩))) | assumption | (exact (hc_far (by omega)).trans (by assumption))) (by omega) ?_
      refine cr_take (k := 27) (d := e + 3) hG (by omega) hs (fun hne4 y4 hs gg hI4 hJ4 => ?_) (fun w hw => ?_)
      · have hB := hB.go gg (by omega)
        have hr := hr.go gg (Nat.le_refl _)
        have hg := hg.trans gg
        generalize hσ4 : σ3.nx g L = σ4 at *
        have hnn4 : σ4.n = σ3.n := by rw [← hσ4, ms_nx_n]
        rw [← hnn4] at hr
        refine b_37_241 _ _ _ (by first | (exact hc_o (by first | assumption | (exact ⟨by decide, rfl⟩))) | assumption | (exact (hc_far (by omega)).trans (by assumption))) (by omega) (by first | rfl | assumption) (by first | (exact hc_o (by first | assumption | (exact ⟨by decide, rfl⟩))) | assumption | (exact (hc_far (by omega)).trans (by assumption))) (by omega) (by first | rfl | assumption) (by first | (exact hc_o (by first | assumption | (exact ⟨by decide, rfl⟩))) | assumption | (exact (hc_far (by omega)).trans (by assumption))) (by omega) ?_
        refine cr_num (d := e + 3) hG hs (fun h375 y5 hs gg hI5 hJ5 => ?_) (fun h37 => ?_)
        · have hnum : ms_num g L σ4 = .ok (σ4.t.v, σ4.nx g L) := by unfold ms_num; rw [if_pos h375]
          rw [hnum, ms_eb_ok] at hsp
          have hB := hB.go gg (by omega)
          have hr := hr.go gg (Nat.le_refl _)
          have hg := hg.trans gg
          generalize hvv : σ4.t.v = vv at *
          generalize hσ5 : σ4.nx g L = σ5 at *
          have hnn5 : σ5.n = σ4.n := by rw [← hσ5, ms_nx_n]
          rw [← hnn5] at hr
          have hle5 := hs.2.1.2
          refine b_37_253 _ _ _ _ _ _ (by first | (exact hc_al (by omega) (by first | assumption | (exact (ht9 (by assumption)).2.1) | (exact (ht9 (by assumption)).2.2.1) | (exact (ht9 (by assumption)).2.2.2) | rfl)) | assumption | (exact (hc_far (by omega)).trans (by assumption))) (by omega) (by first | assumption | (exact ix_of (by omega) (by omega)) | (exact ⟨by decide, rfl, by decide⟩)) ?_
          refine hw_W (hw_AL (by omega) (by first | assumption | (exact (ht9 (by assumption)).2.1) | (exact (ht9 (by assumption)).2.2.1) | (exact (ht9 (by assumption)).2.2.2) | rfl)) ?_
          show mi_W _ _ _ _ _ (n, sl, hc (cwL σ0.n vv y5) f0) _
          have hB := hB.wL (u := vv)
          have hs := hs.wL (m := σ0.n) (u := vv)
          have hg := hg.wL (m := σ0.n) (u := vv) (Nat.le_refl _)
          have hr := hr.wL (m := σ0.n) (u := vv) (Nat.lt_succ_self _)
          generalize cwL σ0.n vv y5 = y5 at *
          refine b_37_347 _ _ _ ?_ ?_
          · intro z347
            first | (exact absurd z347 (by decide)) | (exact absurd (by decide) z347) | (exact absurd rfl z347) | (exact absurd z347 (of_nn (by omega))) | (exact absurd (of_np (by omega)) z347) | omega
          · intro z347
            refine b_37_351 _ _ _ (by first | (exact hc_o (by first | assumption | (exact ⟨by decide, rfl⟩))) | assumption | (exact (hc_far (by omega)).trans (by assumption))) (by omega) (by first | rfl | assumption) (by first | (exact hc_o (by first | assumption | (exact ⟨by decide, rfl⟩))) | assumption | (exact (hc_far (by omega)).trans (by assumption))) (by omega) (by first | rfl | assumption) (by first | (exact hc_o (by first | assumption | (exact ⟨by decide, rfl⟩))) | assumption | (exact (hc_far (by omega)).trans (by assumption))) (by omega) ?_
            rw [hl2]
            refine IHC (e + 10) _ _ _ (by omega) hs (fun y6 σ6 hok6 hs gg hrE e7 hlt6 => ?_) (fun w hw => ?_)
            · rw [hok6, ms_eb_ok] at hsp
              have hB := hB.go gg (by omega)
              have hr := (hr.go gg (Nat.le_refl _)).join hrE (by omega)
              have hg := hg.trans gg
              have hle6 := hs.2.1.2
              have hge6 := gg.2.2.1.1
              refine b_37_366 _ _ _ _ _ _ (by first | (exact hc_ai (by omega) (by first | assumption | (exact (ht9 (by assumption)).2.1) | (exact (ht9 (by assumption)).2.2.1) | (exact (ht9 (by assumption)).2.2.2) | rfl) (by decide)) | assumption | (exact (hc_far (by omega)).trans (by assumption))) (by omega) (by first | assumption | (exact ix_of (by omega) (by omega)) | (exact ⟨by decide, rfl, by decide⟩)) ?_
              refine hw_W (hw_AI (by omega) (by first | assumption | (exact (ht9 (by assumption)).2.1) | (exact (ht9 (by assumption)).2.2.1) | (exact (ht9 (by assumption)).2.2.2) | rfl) (by decide)) ?_
              show mi_W _ _ _ _ _ (n, sl, hc (cw 3 σ0.n (Int32.ofNat σ5.n) y6) f0) _
              have hB := hB.w (k := 3) (v := Int32.ofNat σ5.n)
              have hs := hs.w (k := 3) (m := σ0.n) (v := Int32.ofNat σ5.n)
              have hg := hg.w (k := 3) (m := σ0.n) (v := Int32.ofNat σ5.n) (by omega)
              have hr := hr.w (k := 3) (m := σ0.n) (v := Int32.ofNat σ5.n) (Nat.lt_succ_self _)
              have e7 := (cw_ne (k := 3) (m := σ0.n) (v := Int32.ofNat σ5.n) (a := y6) (k' := 7) (m' := σ5.n) (fun z => by omega)).trans e7
              generalize cw 3 σ0.n (Int32.ofNat σ5.n) y6 = y6 at *
              refine b_37_367 _ _ _ _ _ _ (by first | (exact hc_o (by first | assumption | (exact ⟨by decide, rfl⟩))) | assumption | (exact (hc_far (by omega)).trans (by assumption))) (by omega) (by first | rfl | assumption) (by first | (exact hc_o (by first | assumption | (exact ⟨by decide, rfl⟩))) | assumption | (exact (hc_far (by omega)).trans (by assumption))) (by omega) (by first | rfl | assumption) (by first | (exact hc_o (by first | assumption | (exact ⟨by decide, rfl⟩))) | assumption | (exact (hc_far (by omega)).trans (by assumption))) (by omega) (by first | rfl | assumption) (by first | (exact hc_o (by first | assumption | (exact ⟨by decide, rfl⟩))) | assumption | (exact (hc_far (by omega)).trans (by assumption))) (by omega) (by first | rfl | assumption) (by first | (exact hc_ai (by omega) (by first | assumption | (exact (ht9 (by assumption)).2.1) | (exact (ht9 (by assumption)).2.2.1) | (exact (ht9 (by assumption)).2.2.2) | rfl) (by decide)) | assumption | (exact (hc_far (by omega)).trans (by assumption))) (by omega) (by first | assumption | (exact ix_of (by omega) (by omega)) | (exact ⟨by decide, rfl, by decide⟩)) ?_
              refine hw_Q (hw_AI (by omega) (by first | assumption | (exact (ht9 (by assumption)).2.1) | (exact (ht9 (by assumption)).2.2.1) | (exact (ht9 (by assumption)).2.2.2) | rfl) (by decide)) ?_
              have h11 := hs.2.1.1
              show Q (.inl (some (.int (Int32.ofNat σ0.n)))) (n, sl, hc (cw 7 σ0.n (y6.I 2 3 11) y6) f0)
              rw [h11]
              have hB := hB.w (k := 7) (v := Int32.ofNat σ6.n)
              have hr := hr.w (k := 7) (m := σ0.n) (v := Int32.ofNat σ6.n) (Nat.lt_succ_self _)
              have e7 := (cw_ne (k := 7) (m := σ0.n) (v := Int32.ofNat σ6.n) (a := y6) (k' := 7) (m' := σ5.n) (fun z => by omega)).trans e7
              refine ok _ _ hsp (hs.w.set) ((hg.w (Nat.le_refl _)).set (Nat.le_refl _)) (hr.one ⟨fun k hk9 h7 => ?_, ?_, ?_⟩ ?_ (by omega)) (hB.1 7 (by omega)) (by show σ0.n < σ6.n; omega)
              · rcases lt9 hk9 with rfl | rfl | rfl | rfl | rfl | rfl | rfl | rfl | rfl <;> first | exact absurd rfl h7 | exact hB.1 _ hk9
              · exact hB.2
              · exact (hB.1 7 (by omega)).trans (e7.symm.trans (if_neg (show ¬ σ5.n = 0 by omega)).symm)
              · exact Or.inr ⟨show σ0.n < σ5.n by omega, show σ5.n < σ6.n by omega⟩
            · exact cEr.kc (by decide +kernel) (by omega) ((er w (by rw [hsp, hw]; rfl)).go hg.1)
        · exact cEr.kc (by decide +kernel) (by omega) ((er _ (by rw [hsp]; unfold ms_num; rw [if_neg h37]; rfl)).go hg.1)
      · exact absurd hw (by unfold ms_need; rw [if_pos h273]; exact fun h => nomatch h)
    · exact cEr.kc (by decide +kernel) (by omega) ((er w (by rw [hsp, show ms_need g L (ms_kc 51) σ1 = .error w from hw]; rfl)).go hg.1)
  · exact cEr.kc (by decide +kernel) (by omega) (er _ (ms_C_8 hk40 hop h8))
theorem co_o5 {l2 : Int32} (hG : cG n sl f0) (hl2 : l2 + 1 = Int32.ofNat (101 - j)) (hd : 2 * j + 3 ≤ e) (IHE : cIE n sl f0 g L j) (IHC : cIC n sl f0 g L j) (h : cst a0 g L σ0) (hk : σ0.t.k = 6) (ok : cokE n sl f0 g L Q a0 σ0 (ms_C g L (j + 1) σ0)) (er : cerE n sl f0 Q a0 (ms_C g L (j + 1) σ0)) : mi_W (e + 11) 37 98 [some (.ref 15), some (.int l2), some (.int 6), none, none, none] [] (n, sl, hc a0 f0) Q := by
  have hn := hG.1
  have hk40 : ¬ σ0.t.k = ms_kc 40 := by rw [hk]; decide
  have hop : ms_oc σ0.t.k = some 5 := by rw [hk]; decide +kernel
  unfold cokE at ok
  unfold cerE at er
  refine b_37_98 _ _ _ (by first | (exact hc_o (by first | assumption | (exact ⟨by decide, rfl⟩))) | assumption | (exact (hc_far (by omega)).trans (by assumption))) (by omega) ?_
  refine cr_node (d := e + 3) hG h (fun h8 y1 v hs hg hv hB => ?_) (fun h8 => ?_)
  · have hsp : ms_C g L (j + 1) σ0 = ms_eb (ms_va g L (σ0.add.nx g L)) (fun a σ => ms_eb (ms_E g L j false σ) (fun _ σ1 => ms_eb (ms_C g L j σ1) (fun _ σ2 => .ok ((), σ2.set σ0.n (5, a, 0, 0, 0, σ.n, σ1.n, 0, 0, 0))))) := ms_C_o hk40 hop (by omega)
    rw [hk] at hB
    generalize hσ1 : σ0.add.nx g L = σ1 at *
    have hn1 : σ1.n = σ0.n + 1 := by rw [← hσ1]; rfl
    have hr : crg (σ0.n + 1) σ1.n y1 σ1.tb := by rw [hn1]; exact crg.nil
    have hx := ix_of (w := σ0.n) (m := 800) (by omega) (by omega)
    have hle1 := hs.2.1.2
    refine b_37_102 (t8 := 257) _ _ _ (by decide +kernel) ?_
    refine b_37_257 _ _ _ (by first | (exact hc_o (by first | assumption | (exact ⟨by decide, rfl⟩))) | assumption | (exact (hc_far (by omega)).trans (by assumption))) (by omega) (by first | rfl | assumption) (by first | (exact hc_o (by first | assumption | (exact ⟨by decide, rfl⟩))) | assumption | (exact (hc_far (by omega)).trans (by assumption))) (by omega) (by first | rfl | assumption) (by first | (exact hc_o (by first | assumption | (exact ⟨by decide, rfl⟩))) | assumption | (exact (hc_far (by omega)).trans (by assumption))) (by omega) (by first | rfl | assumption) (by first | (exact hc_o (by first | assumption | (exact ⟨by decide, rfl⟩))) | assumption | (exact (hc_far (by omega)).trans (by assumption))) (by omega) ?_
    refine cr_va (d := e + 3) hG hs (fun i2 σ2 hok2 hi2 hnn2 hxx y2 hs gg => ?_) (fun w hw => ?_)
    · rw [hok2, ms_eb_ok] at hsp
      have hB := hB.go gg (by omega)
      have hr := hr.go gg (Nat.le_refl _)
      rw [← hnn2] at hr
      have hg := hg.trans gg
      have hle2 := hs.2.1.2
      have hge2 := gg.2.2.1.1
      refine b_37_273 _ _ _ _ _ _ (by first | (exact hc_ai (by omega) (by first | assumption | (exact (ht9 (by assumption)).2.1) | (exact (ht9 (by assumption)).2.2.1) | (exact (ht9 (by assumption)).2.2.2) | rfl) (by decide)) | assumption | (exact (hc_far (by omega)).trans (by assumption))) (by omega) (by first | assumption | (exact ix_of (by omega) (by omega)) | (exact ⟨by decide, rfl, by decide⟩)) (by first | (exact (congrFun (hw_AI (by omega) (by first | assumption | (exact (ht9 (by assumption)).2.1) | (exact (ht9 (by assumption)).2.2.1) | (exact (ht9 (by assumption)).2.2.2) | rfl) (by decide)) _).trans (hc_o (by first | assumption | (exact ⟨by decide, rfl⟩)))) | assumption | (exact (hc_far (by omega)).trans (by assumption))) (by omega) (by first | rfl | assumption) (by first | (exact (congrFun (hw_AI (by omega) (by first | assumption | (exact (ht9 (by assumption)).2.1) | (exact (ht9 (by assumption)).2.2.1) | (exact (ht9 (by assumption)).2.2.2) | rfl) (by decide)) _).trans (hc_o (by first | assumption | (exact ⟨by decide, rfl⟩)))) | assumption | (exact (hc_far (by omega)).trans (by assumption))) (by omega) (by first | rfl | assumption) (by first | (exact (congrFun (hw_AI (by omega) (by first | assumption | (exact (ht9 (by assumption)).2.1) | (exact (ht9 (by assumption)).2.2.1) | (exact (ht9 (by assumption)).2.2.2) | rfl) (by decide)) _).trans (hc_o (by first | assumption | (exact ⟨by decide, rfl⟩)))) | assumption | (exact (hc_far (by omega)).trans (by assumption))) (by omega) ?_
      refine hw_W (hw_AI (by omega) (by first | assumption | (exact (ht9 (by assumption)).2.1) | (exact (ht9 (by assumption)).2.2.1) | (exact (ht9 (by assumption)).2.2.2) | rfl) (by decide)) ?_
      show mi_W _ _ _ _ _ (n, sl, hc (cw 4 σ0.n (Int32.ofNat i2) y2) f0) _
      have hB := hB.w (k := 4) (v := Int32.ofNat i2)
      have hs := hs.w (k := 4) (m := σ0.n) (v := Int32.ofNat i2)
      have hg := hg.w (k := 4) (m := σ0.n) (v := Int32.ofNat i2) (by omega)
      have hr := hr.w (k := 4) (m := σ0.n) (v := Int32.ofNat i2) (Nat.lt_succ_self _)
      generalize cw 4 σ0.n (Int32.ofNat i2) y2 = y2 at *
      rw [hl2]
      refine IHE.1 (e + 10) _ _ _ (by omega) hs (fun y3 σ3 hok3 hs gg hrE e7 hlt3 => ?_) (fun w hw => ?_)
      · rw [hok3, ms_eb_ok] at hsp
        have hB := hB.go gg (by omega)
        have hr := (hr.go gg (Nat.le_refl _)).join hrE (by omega)
        have hg := hg.trans gg
        have hle3 := hs.2.1.2
        have hge3 := gg.2.2.1.1
        refine b_37_289 _ _ _ _ _ _ (by first | (exact hc_ai (by omega) (by first | assumption | (exact (ht9 (by assumption)).2.1) | (exact (ht9 (by assumption)).2.2.1) | (exact (ht9 (by assumption)).2.2.2) | rfl) (by decide)) | assumption | (exact (hc_far (by omega)).trans (by assumption))) (by omega) (by first | assumption | (exact ix_of (by omega) (by omega)) | (exact ⟨by decide, rfl, by decide⟩)) ?_
        refine hw_W (hw_AI (by omega) (by first | assumption | (exact (ht9 (by assumption)).2.1) | (exact (ht9 (by assumption)).2.2.1) | (exact (ht9 (by assumption)).2.2.2) | rfl) (by decide)) ?_
        show mi_W _ _ _ _ _ (n, sl, hc (cw 1 σ0.n (Int32.ofNat σ2.n) y3) f0) _
        have hB := hB.w (k := 1) (v := Int32.ofNat σ2.n)
        have hs := hs.w (k := 1) (m := σ0.n) (v := Int32.ofNat σ2.n)
        have hg := hg.w (k := 1) (m := σ0.n) (v := Int32.ofNat σ2.n) (by omega)
        have hr := hr.w (k := 1) (m := σ0.n) (v := Int32.ofNat σ2.n) (Nat.lt_succ_self _)
        have e7 := (cw_ne (k := 1) (m := σ0.n) (v := Int32.ofNat σ2.n) (a := y3) (k' := 7) (m' := σ2.n) (fun z => by omega)).trans e7
        generalize cw 1 σ0.n (Int32.ofNat σ2.n) y3 = y3 at *
        refine b_37_347 _ _ _ ?_ ?_
        · intro z347
          first | (exact absurd z347 (by decide)) | (exact absurd (by decide) z347) | (exact absurd rfl z347) | (exact absurd z347 (of_nn (by omega))) | (exact absurd (of_np (by omega)) z347) | omega
        · intro z347
          refine b_37_351 _ _ _ (by first | (exact hc_o (by first | assumption | (exact ⟨by decide, rfl⟩))) | assumption | (exact (hc_far (by omega)).trans (by assumption))) (by omega) (by first | rfl | assumption) (by first | (exact hc_o (by first | assumption | (exact ⟨by decide, rfl⟩))) | assumption | (exact (hc_far (by omega)).trans (by assumption))) (by omega) (by first | rfl | assumption) (by first | (exact hc_o (by first | assumption | (exact ⟨by decide, rfl⟩))) | assumption | (exact (hc_far (by omega)).trans (by assumption))) (by omega) ?_
          rw [hl2]
          refine IHC (e + 10) _ _ _ (by omega) hs (fun y4 σ4 hok4 hs gg hrE e7 hlt4 => ?_) (fun w hw => ?_)
          · rw [hok4, ms_eb_ok] at hsp
            have hB := hB.go gg (by omega)
            have hr := (hr.go gg (Nat.le_refl _)).join hrE (by omega)
            have hg := hg.trans gg
            have hle4 := hs.2.1.2
            have hge4 := gg.2.2.1.1
            refine b_37_366 _ _ _ _ _ _ (by first | (exact hc_ai (by omega) (by first | assumption | (exact (ht9 (by assumption)).2.1) | (exact (ht9 (by assumption)).2.2.1) | (exact (ht9 (by assumption)).2.2.2) | rfl) (by decide)) | assumption | (exact (hc_far (by omega)).trans (by assumption))) (by omega) (by first | assumption | (exact ix_of (by omega) (by omega)) | (exact ⟨by decide, rfl, by decide⟩)) ?_
            refine hw_W (hw_AI (by omega) (by first | assumption | (exact (ht9 (by assumption)).2.1) | (exact (ht9 (by assumption)).2.2.1) | (exact (ht9 (by assumption)).2.2.2) | rfl) (by decide)) ?_
            show mi_W _ _ _ _ _ (n, sl, hc (cw 3 σ0.n (Int32.ofNat σ3.n) y4) f0) _
            have hB := hB.w (k := 3) (v := Int32.ofNat σ3.n)
            have hs := hs.w (k := 3) (m := σ0.n) (v := Int32.ofNat σ3.n)
            have hg := hg.w (k := 3) (m := σ0.n) (v := Int32.ofNat σ3.n) (by omega)
            have hr := hr.w (k := 3) (m := σ0.n) (v := Int32.ofNat σ3.n) (Nat.lt_succ_self _)
            have e7 := (cw_ne (k := 3) (m := σ0.n) (v := Int32.ofNat σ3.n) (a := y4) (k' := 7) (m' := σ3.n) (fun z => by omega)).trans e7
            generalize cw 3 σ0.n (Int32.ofNat σ3.n) y4 = y4 at *
            refine b_37_367 _ _ _ _ _ _ (by first | (exact hc_o (by first | assumption | (exact ⟨by decide, rfl⟩))) | assumption | (exact (hc_far (by omega)).trans (by assumption))) (by omega) (by first | rfl | assumption) (by first | (exact hc_o (by first | assumption | (exact ⟨by decide, rfl⟩))) | assumption | (exact (hc_far (by omega)).trans (by assumption))) (by omega) (by first | rfl | assumption) (by first | (exact hc_o (by first | assumption | (exact ⟨by decide, rfl⟩))) | assumption | (exact (hc_far (by omega)).trans (by assumption))) (by omega) (by first | rfl | assumption) (by first | (exact hc_o (by first | assumption | (exact ⟨by decide, rfl⟩))) | assumption | (exact (hc_far (by omega)).trans (by assumption))) (by omega) (by first | rfl | assumption) (by first | (exact hc_ai (by omega) (by first | assumption | (exact (ht9 (by assumption)).2.1) | (exact (ht9 (by assumption)).2.2.1) | (exact (ht9 (by assumption)).2.2.2) | rfl) (by decide)) | assumption | (exact (hc_far (by omega)).trans (by assumption))) (by omega) (by first | assumption | (exact ix_of (by omega) (by omega)) | (exact ⟨by decide, rfl, by decide⟩)) ?_
            refine hw_Q (hw_AI (by omega) (by first | assumption | (exact (ht9 (by assumption)).2.1) | (exact (ht9 (by assumption)).2.2.1) | (exact (ht9 (by assumption)).2.2.2) | rfl) (by decide)) ?_
            have h11 := hs.2.1.1
            show Q (.inl (some (.int (Int32.ofNat σ0.n)))) (n, sl, hc (cw 7 σ0.n (y4.I 2 3 11) y4) f0)
            rw [h11]
            have hB := hB.w (k := 7) (v := Int32.ofNat σ4.n)
            have hr := hr.w (k := 7) (m := σ0.n) (v := Int32.ofNat σ4.n) (Nat.lt_succ_self _)
            have e7 := (cw_ne (k := 7) (m := σ0.n) (v := Int32.ofNat σ4.n) (a := y4) (k' := 7) (m' := σ3.n) (fun z => by omega)).trans e7
            refine ok _ _ hsp (hs.w.set) ((hg.w (Nat.le_refl _)).set (Nat.le_refl _)) (hr.one ⟨fun k hk9 h7 => ?_, ?_, ?_⟩ ?_ (by omega)) (hB.1 7 (by omega)) (by show σ0.n < σ4.n; omega)
            · rcases lt9 hk9 with rfl | rfl | rfl | rfl | rfl | rfl | rfl | rfl | rfl <;> first | exact absurd rfl h7 | exact hB.1 _ hk9
            · refine hB.2.trans (hv.trans ?_)
              rw [hk]
              rfl
            · exact (hB.1 7 (by omega)).trans (e7.symm.trans (if_neg (show ¬ σ3.n = 0 by omega)).symm)
            · exact Or.inr ⟨show σ0.n < σ3.n by omega, show σ3.n < σ4.n by omega⟩
          · exact cEr.kc (by decide +kernel) (by omega) ((er w (by rw [hsp, hw]; rfl)).go hg.1)
      · exact cEr.kc (by decide +kernel) (by omega) ((er w (by rw [hsp, hw]; rfl)).go hg.1)
    · exact cEr.kc (by decide +kernel) (by omega) ((er w (by rw [hsp, hw]; rfl)).go hg.1)
  · exact cEr.kc (by decide +kernel) (by omega) (er _ (ms_C_8 hk40 hop h8))
theorem co_o6 {l2 : Int32} (hG : cG n sl f0) (hl2 : l2 + 1 = Int32.ofNat (101 - j)) (hd : 2 * j + 3 ≤ e) (IHE : cIE n sl f0 g L j) (IHC : cIC n sl f0 g L j) (h : cst a0 g L σ0) (hk : σ0.t.k = 7) (ok : cokE n sl f0 g L Q a0 σ0 (ms_C g L (j + 1) σ0)) (er : cerE n sl f0 Q a0 (ms_C g L (j + 1) σ0)) : mi_W (e + 11) 37 98 [some (.ref 15), some (.int l2), some (.int 7), none, none, none] [] (n, sl, hc a0 f0) Q := by
  have hn := hG.1
  have hk40 : ¬ σ0.t.k = ms_kc 40 := by rw [hk]; decide
  have hop : ms_oc σ0.t.k = some 6 := by rw [hk]; decide +kernel
  unfold cokE at ok
  unfold cerE at er
  refine b_37_98 _ _ _ (by first | (exact hc_o (by first | assumption | (exact ⟨by decide, rfl⟩))) | assumption | (exact (hc_far (by omega)).trans (by assumption))) (by omega) ?_
  refine cr_node (d := e + 3) hG h (fun h8 y1 v hs hg hv hB => ?_) (fun h8 => ?_)
  · have hsp : ms_C g L (j + 1) σ0 = ms_eb (ms_E g L j true (σ0.add.nx g L)) (fun _ σ1 => ms_eb (ms_C g L j σ1) (fun _ σ2 => .ok ((), σ2.set σ0.n (6, 0, 0, 0, 0, (σ0.add.nx g L).n, σ1.n, 0, 0, 0)))) := ms_C_o hk40 hop (by omega)
    rw [hk] at hB
    generalize hσ1 : σ0.add.nx g L = σ1 at *
    have hn1 : σ1.n = σ0.n + 1 := by rw [← hσ1]; rfl
    have hr : crg (σ0.n + 1) σ1.n y1 σ1.tb := by rw [hn1]; exact crg.nil
    have hx := ix_of (w := σ0.n) (m := 800) (by omega) (by omega)
    have hle1 := hs.2.1.2
    refine b_37_102 (t8 := 328) _ _ _ (by decide +kernel) ?_
    refine b_37_328 _ _ _ (by first | (exact hc_o (by first | assumption | (exact ⟨by decide, rfl⟩))) | assumption | (exact (hc_far (by omega)).trans (by assumption))) (by omega) (by first | rfl | assumption) (by first | (exact hc_o (by first | assumption | (exact ⟨by decide, rfl⟩))) | assumption | (exact (hc_far (by omega)).trans (by assumption))) (by omega) (by first | rfl | assumption) (by first | (exact hc_o (by first | assumption | (exact ⟨by decide, rfl⟩))) | assumption | (exact (hc_far (by omega)).trans (by assumption))) (by omega) ?_
    rw [hl2]
    refine IHE.2 (e + 10) _ _ _ (by omega) hs (fun y2 σ2 hok2 hs gg hrE e7 hlt2 => ?_) (fun w hw => ?_)
    · rw [hok2, ms_eb_ok] at hsp
      have hB := hB.go gg (by omega)
      have hr := (hr.go gg (Nat.le_refl _)).join hrE (by omega)
      have hg := hg.trans gg
      have hle2 := hs.2.1.2
      have hge2 := gg.2.2.1.1
      refine b_37_343 _ _ _ _ _ _ (by first | (exact hc_ai (by omega) (by first | assumption | (exact (ht9 (by assumption)).2.1) | (exact (ht9 (by assumption)).2.2.1) | (exact (ht9 (by assumption)).2.2.2) | rfl) (by decide)) | assumption | (exact (hc_far (by omega)).trans (by assumption))) (by omega) (by first | assumption | (exact ix_of (by omega) (by omega)) | (exact ⟨by decide, rfl, by decide⟩)) ?_
      refine hw_W (hw_AI (by omega) (by first | assumption | (exact (ht9 (by assumption)).2.1) | (exact (ht9 (by assumption)).2.2.1) | (exact (ht9 (by assumption)).2.2.2) | rfl) (by decide)) ?_
      show mi_W _ _ _ _ _ (n, sl, hc (cw 1 σ0.n (Int32.ofNat σ1.n) y2) f0) _
      have hB := hB.w (k := 1) (v := Int32.ofNat σ1.n)
      have hs := hs.w (k := 1) (m := σ0.n) (v := Int32.ofNat σ1.n)
      have hg := hg.w (k := 1) (m := σ0.n) (v := Int32.ofNat σ1.n) (by omega)
      have hr := hr.w (k := 1) (m := σ0.n) (v := Int32.ofNat σ1.n) (Nat.lt_succ_self _)
      have e7 := (cw_ne (k := 1) (m := σ0.n) (v := Int32.ofNat σ1.n) (a := y2) (k' := 7) (m' := σ1.n) (fun z => by omega)).trans e7
      generalize cw 1 σ0.n (Int32.ofNat σ1.n) y2 = y2 at *
      refine b_37_347 _ _ _ ?_ ?_
      · intro z347
        first | (exact absurd z347 (by decide)) | (exact absurd (by decide) z347) | (exact absurd rfl z347) | (exact absurd z347 (of_nn (by omega))) | (exact absurd (of_np (by omega)) z347) | omega
      · intro z347
        refine b_37_351 _ _ _ (by first | (exact hc_o (by first | assumption | (exact ⟨by decide, rfl⟩))) | assumption | (exact (hc_far (by omega)).trans (by assumption))) (by omega) (by first | rfl | assumption) (by first | (exact hc_o (by first | assumption | (exact ⟨by decide, rfl⟩))) | assumption | (exact (hc_far (by omega)).trans (by assumption))) (by omega) (by first | rfl | assumption) (by first | (exact hc_o (by first | assumption | (exact ⟨by decide, rfl⟩))) | assumption | (exact (hc_far (by omega)).trans (by assumption))) (by omega) ?_
        rw [hl2]
        refine IHC (e + 10) _ _ _ (by omega) hs (fun y3 σ3 hok3 hs gg hrE e7 hlt3 => ?_) (fun w hw => ?_)
        · rw [hok3, ms_eb_ok] at hsp
          have hB := hB.go gg (by omega)
          have hr := (hr.go gg (Nat.le_refl _)).join hrE (by omega)
          have hg := hg.trans gg
          have hle3 := hs.2.1.2
          have hge3 := gg.2.2.1.1
          refine b_37_366 _ _ _ _ _ _ (by first | (exact hc_ai (by omega) (by first | assumption | (exact (ht9 (by assumption)).2.1) | (exact (ht9 (by assumption)).2.2.1) | (exact (ht9 (by assumption)).2.2.2) | rfl) (by decide)) | assumption | (exact (hc_far (by omega)).trans (by assumption))) (by omega) (by first | assumption | (exact ix_of (by omega) (by omega)) | (exact ⟨by decide, rfl, by decide⟩)) ?_
          refine hw_W (hw_AI (by omega) (by first | assumption | (exact (ht9 (by assumption)).2.1) | (exact (ht9 (by assumption)).2.2.1) | (exact (ht9 (by assumption)).2.2.2) | rfl) (by decide)) ?_
          show mi_W _ _ _ _ _ (n, sl, hc (cw 3 σ0.n (Int32.ofNat σ2.n) y3) f0) _
          have hB := hB.w (k := 3) (v := Int32.ofNat σ2.n)
          have hs := hs.w (k := 3) (m := σ0.n) (v := Int32.ofNat σ2.n)
          have hg := hg.w (k := 3) (m := σ0.n) (v := Int32.ofNat σ2.n) (by omega)
          have hr := hr.w (k := 3) (m := σ0.n) (v := Int32.ofNat σ2.n) (Nat.lt_succ_self _)
          have e7 := (cw_ne (k := 3) (m := σ0.n) (v := Int32.ofNat σ2.n) (a := y3) (k' := 7) (m' := σ2.n) (fun z => by omega)).trans e7
          generalize cw 3 σ0.n (Int32.ofNat σ2.n) y3 = y3 at *
          refine b_37_367 _ _ _ _ _ _ (by first | (exact hc_o (by first | assumption | (exact ⟨by decide, rfl⟩))) | assumption | (exact (hc_far (by omega)).trans (by assumption))) (by omega) (by first | rfl | assumption) (by first | (exact hc_o (by first | assumption | (exact ⟨by decide, rfl⟩))) | assumption | (exact (hc_far (by omega)).trans (by assumption))) (by omega) (by first | rfl | assumption) (by first | (exact hc_o (by first | assumption | (exact ⟨by decide, rfl⟩))) | assumption | (exact (hc_far (by omega)).trans (by assumption))) (by omega) (by first | rfl | assumption) (by first | (exact hc_o (by first | assumption | (exact ⟨by decide, rfl⟩))) | assumption | (exact (hc_far (by omega)).trans (by assumption))) (by omega) (by first | rfl | assumption) (by first | (exact hc_ai (by omega) (by first | assumption | (exact (ht9 (by assumption)).2.1) | (exact (ht9 (by assumption)).2.2.1) | (exact (ht9 (by assumption)).2.2.2) | rfl) (by decide)) | assumption | (exact (hc_far (by omega)).trans (by assumption))) (by omega) (by first | assumption | (exact ix_of (by omega) (by omega)) | (exact ⟨by decide, rfl, by decide⟩)) ?_
          refine hw_Q (hw_AI (by omega) (by first | assumption | (exact (ht9 (by assumption)).2.1) | (exact (ht9 (by assumption)).2.2.1) | (exact (ht9 (by assumption)).2.2.2) | rfl) (by decide)) ?_
          have h11 := hs.2.1.1
          show Q (.inl (some (.int (Int32.ofNat σ0.n)))) (n, sl, hc (cw 7 σ0.n (y3.I 2 3 11) y3) f0)
          rw [h11]
          have hB := hB.w (k := 7) (v := Int32.ofNat σ3.n)
          have hr := hr.w (k := 7) (m := σ0.n) (v := Int32.ofNat σ3.n) (Nat.lt_succ_self _)
          have e7 := (cw_ne (k := 7) (m := σ0.n) (v := Int32.ofNat σ3.n) (a := y3) (k' := 7) (m' := σ2.n) (fun z => by omega)).trans e7
          refine ok _ _ hsp (hs.w.set) ((hg.w (Nat.le_refl _)).set (Nat.le_refl _)) (hr.one ⟨fun k hk9 h7 => ?_, ?_, ?_⟩ ?_ (by omega)) (hB.1 7 (by omega)) (by show σ0.n < σ3.n; omega)
          · rcases lt9 hk9 with rfl | rfl | rfl | rfl | rfl | rfl | rfl | rfl | rfl <;> first | exact absurd rfl h7 | exact hB.1 _ hk9
          · refine hB.2.trans (hv.trans ?_)
            rw [hk]
            rfl
          · exact (hB.1 7 (by omega)).trans (e7.symm.trans (if_neg (show ¬ σ2.n = 0 by omega)).symm)
          · exact Or.inr ⟨show σ0.n < σ2.n by omega, show σ2.n < σ3.n by omega⟩
        · exact cEr.kc (by decide +kernel) (by omega) ((er w (by rw [hsp, hw]; rfl)).go hg.1)
    · exact cEr.kc (by decide +kernel) (by omega) ((er w (by rw [hsp, hw]; rfl)).go hg.1)
  · exact cEr.kc (by decide +kernel) (by omega) (er _ (ms_C_8 hk40 hop h8))
theorem co_head {l2 : Int32} (hG : cG n sl f0) (h : cst a g L σ) (K1 : (σ.t.k = 0 ∨ σ.t.k = 1 ∨ σ.t.k = 4 ∨ σ.t.k = 5 ∨ σ.t.k = 6 ∨ σ.t.k = 7) → mi_W (e + 11) 37 98 [some (.ref 15), some (.int l2), some (.int (Int32.ofNat σ.t.k)), none, none, none] [] (n, sl, hc a f0) Q) (K0 : ¬ (σ.t.k = 0 ∨ σ.t.k = 1 ∨ σ.t.k = 4 ∨ σ.t.k = 5 ∨ σ.t.k = 6 ∨ σ.t.k = 7) → cEr n sl f0 Q a σ.t.a) : mi_W (e + 11) 37 50 [some (.ref 15), some (.int l2), none, none, none, none] [] (n, sl, hc a f0) Q := by
  have hn := hG.1
  have h40 := h.1.k40
  have h2 := h.1.2.2.2.1
  have e5 := h.1.2.2.2.2.1
  have c0 := (cmpN h2 h40 0 (by omega)).2.2
  have c1 := (cmpN (x := Int32.ofNat σ.t.k) rfl h40 1 (by omega)).2.2
  have c4 := (cmpN (x := Int32.ofNat σ.t.k) rfl h40 4 (by omega)).2.2
  have c5 := (cmpN (x := Int32.ofNat σ.t.k) rfl h40 5 (by omega)).2.2
  have c6 := (cmpN (x := Int32.ofNat σ.t.k) rfl h40 6 (by omega)).2.2
  have c7 := (cmpN (x := Int32.ofNat σ.t.k) rfl h40 7 (by omega)).2.2
  refine b_37_50 _ _ _ (by first | (exact hc_o (by first | assumption | (exact ⟨by decide, rfl⟩))) | assumption | (exact (hc_far (by omega)).trans (by assumption))) (by omega) (by first | rfl | assumption) (by first | (exact hc_o (by first | assumption | (exact ⟨by decide, rfl⟩))) | assumption | (exact (hc_far (by omega)).trans (by assumption))) (by omega) (by first | rfl | assumption) ?_ ?_
  · intro z50
    have z50 := c0.mp z50
    rw [h2]
    refine b_37_90 _ _ _ ?_
    refine b_37_95 _ _ _ (by first | (exact hc_o (by first | assumption | (exact ⟨by decide, rfl⟩))) | assumption | (exact (hc_far (by omega)).trans (by assumption))) (by omega) ?_
    refine cr_re1 hn hG.2.1 ?_
    exact K1 (by omega)
  · intro z50
    have z50 := (not_congr c0).mp z50
    rw [h2]
    refine b_37_63 _ _ _ ?_ ?_
    · intro z63
      have z63 := c1.mp z63
      refine b_37_90 _ _ _ ?_
      refine b_37_95 _ _ _ (by first | (exact hc_o (by first | assumption | (exact ⟨by decide, rfl⟩))) | assumption | (exact (hc_far (by omega)).trans (by assumption))) (by omega) ?_
      refine cr_re1 hn hG.2.1 ?_
      exact K1 (by omega)
    · intro z63
      have z63 := (not_congr c1).mp z63
      refine b_37_68 _ _ _ ?_ ?_
      · intro z68
        have z68 := c4.mp z68
        refine b_37_90 _ _ _ ?_
        refine b_37_95 _ _ _ (by first | (exact hc_o (by first | assumption | (exact ⟨by decide, rfl⟩))) | assumption | (exact (hc_far (by omega)).trans (by assumption))) (by omega) ?_
        refine cr_re1 hn hG.2.1 ?_
        exact K1 (by omega)
      · intro z68
        have z68 := (not_congr c4).mp z68
        refine b_37_73 _ _ _ ?_ ?_
        · intro z73
          have z73 := c5.mp z73
          refine b_37_90 _ _ _ ?_
          refine b_37_95 _ _ _ (by first | (exact hc_o (by first | assumption | (exact ⟨by decide, rfl⟩))) | assumption | (exact (hc_far (by omega)).trans (by assumption))) (by omega) ?_
          refine cr_re1 hn hG.2.1 ?_
          exact K1 (by omega)
        · intro z73
          have z73 := (not_congr c5).mp z73
          refine b_37_78 _ _ _ ?_ ?_
          · intro z78
            have z78 := c6.mp z78
            refine b_37_90 _ _ _ ?_
            refine b_37_95 _ _ _ (by first | (exact hc_o (by first | assumption | (exact ⟨by decide, rfl⟩))) | assumption | (exact (hc_far (by omega)).trans (by assumption))) (by omega) ?_
            refine cr_re1 hn hG.2.1 ?_
            exact K1 (by omega)
          · intro z78
            have z78 := (not_congr c6).mp z78
            refine b_37_84 _ _ _ ?_ ?_
            · intro z84
              have z84 := (not_congr c7).mp z84
              refine b_37_94 _ _ _ ?_
              refine b_37_95 _ _ _ (by first | (exact hc_o (by first | assumption | (exact ⟨by decide, rfl⟩))) | assumption | (exact (hc_far (by omega)).trans (by assumption))) (by omega) ?_
              refine cr_re0 hn hG.2.1 ?_
              refine hx_c (by decide +kernel) (by omega) ?_
              exact (K0 (by omega)).at cF.re e5
            · intro z84
              have z84 := c7.mp (Classical.not_not.mp z84)
              refine b_37_90 _ _ _ ?_
              refine b_37_95 _ _ _ (by first | (exact hc_o (by first | assumption | (exact ⟨by decide, rfl⟩))) | assumption | (exact (hc_far (by omega)).trans (by assumption))) (by omega) ?_
              refine cr_re1 hn hG.2.1 ?_
              exact K1 (by omega)
theorem ms_oc_n : ∀ k : Fin 41, ¬ (k.1 = 0 ∨ k.1 = 1 ∨ k.1 = 4 ∨ k.1 = 5 ∨ k.1 = 6 ∨ k.1 = 7) → ms_oc k.1 = none := by decide +kernel
theorem co_0 (hG : cG n sl f0) : cIC n sl f0 g L 0 := by
  intro e a σ Q he h ok er
  obtain ⟨e, rfl⟩ : ∃ e', e = e' + 11 := ⟨e - 11, by omega⟩
  have hn := hG.1
  refine b_37_0 _ _ _ ?_ ?_
  · intro z0
    refine b_37_11 _ _ _ ?_
    refine b_37_12 _ _ _ (by first | (exact hc_o (by first | assumption | (exact ⟨by decide, rfl⟩))) | assumption | (exact (hc_far (by omega)).trans (by assumption))) (by omega) ?_
    refine cr_re0 hn hG.2.1 ?_
    refine hx_c (by decide +kernel) (by omega) ?_
    exact (er _ rfl).at cF.re h.1.2.2.2.2.1
  · intro z0
    exact absurd (show (100 : Int32) < Int32.ofNat (101 - 0) by decide) z0
theorem co_1 (hG : cG n sl f0) (hj : j + 1 ≤ 100) (IHE : cIE n sl f0 g L j) (IHC : cIC n sl f0 g L j) : cIC n sl f0 g L (j + 1) := by
  intro e a σ Q he h ok er
  obtain ⟨e, rfl⟩ : ∃ e', e = e' + 11 := ⟨e - 11, by omega⟩
  have hn := hG.1
  have h40 := h.1.k40
  have h2 := h.1.2.2.2.1
  have hl2 : Int32.ofNat (101 - (j + 1)) + 1 = Int32.ofNat (101 - j) := by rw [of_succ, show 101 - (j + 1) + 1 = 101 - j by omega]
  refine b_37_0 _ _ _ ?_ ?_
  · intro z0
    exact absurd ((i_lt (a := 100) rfl rfl (by omega) (by omega)).mp z0) (by omega)
  · intro z0
    refine b_37_7 _ _ _ ?_
    refine b_37_12 _ _ _ (by first | (exact hc_o (by first | assumption | (exact ⟨by decide, rfl⟩))) | assumption | (exact (hc_far (by omega)).trans (by assumption))) (by omega) ?_
    refine cr_re1 hn hG.2.1 ?_
    refine b_37_15 _ _ _ (by first | (exact hc_o (by first | assumption | (exact ⟨by decide, rfl⟩))) | assumption | (exact (hc_far (by omega)).trans (by assumption))) (by omega) (by first | rfl | assumption) (by first | (exact hc_o (by first | assumption | (exact ⟨by decide, rfl⟩))) | assumption | (exact (hc_far (by omega)).trans (by assumption))) (by omega) (by first | rfl | assumption) ?_ ?_
    · intro z15
      have hk24 : ¬ σ.t.k = ms_kc 40 := fun e => z15 (by rw [h2, e]; decide)
      refine co_head hG h (fun hal => ?_) (fun hal => er _ (ms_C_n hk24 (ms_oc_n ⟨σ.t.k, by omega⟩ hal)))
      rcases hal with hk | hk | hk | hk | hk | hk
      · rw [hk]
        exact co_o0 hG hl2 (by omega) IHE IHC h hk ok er
      · rw [hk]
        exact co_o1 hG hl2 (by omega) IHE IHC h hk ok er
      · rw [hk]
        exact co_o3 hG hl2 (by omega) IHE IHC h hk ok er
      · rw [hk]
        exact co_o4 hG hl2 (by omega) IHE IHC h hk ok er
      · rw [hk]
        exact co_o5 hG hl2 (by omega) IHE IHC h hk ok er
      · rw [hk]
        exact co_o6 hG hl2 (by omega) IHE IHC h hk ok er
    · intro z15
      have hk24 : σ.t.k = ms_kc 40 := (i_eq (b := 24) h2 rfl (by omega) (by omega)).mp (Classical.not_not.mp z15)
      have hsp := ms_C_b (L := L) (g := g) (j := j) hk24
      refine b_37_27 _ _ _ (by first | (exact hc_o (by first | assumption | (exact ⟨by decide, rfl⟩))) | assumption | (exact (hc_far (by omega)).trans (by assumption))) (by omega) (by first | rfl | assumption) (by first | (exact hc_o (by first | assumption | (exact ⟨by decide, rfl⟩))) | assumption | (exact (hc_far (by omega)).trans (by assumption))) (by omega) ?_
      refine cr_adv (d := e + 4) hG h (fun a1 h1 g1 hI hJ => ?_)
      refine b_37_34 _ _ _ (by first | (exact hc_o (by first | assumption | (exact ⟨by decide, rfl⟩))) | assumption | (exact (hc_far (by omega)).trans (by assumption))) (by omega) ?_
      rw [hl2]
      refine IHC (e + 10) _ _ _ (by omega) h1 (fun a2 σ2 hok h2 g2 r2 e7 hlt => ?_) (fun w hw => ?_)
      · rw [hok, ms_eb_ok] at hsp
        refine b_37_41 _ _ _ (by first | (exact hc_o (by first | assumption | (exact ⟨by decide, rfl⟩))) | assumption | (exact (hc_far (by omega)).trans (by assumption))) (by omega) ?_
        refine cr_take (k := 25) (d := e + 3) hG (by omega) h2 (fun hne a3 h3 g3 hI3 hJ3 => ?_) (fun w hw => ?_)
        · refine b_37_48 _ _ _ ?_
          refine ok a3 (σ2.nx g L) (by rw [hsp]; exact hne) h3 (g1.trans (g2.trans g3)) (r2.go g3 (Nat.le_refl _)) ?_ hlt
          rw [hI3]
          exact e7
        · exact cEr.kc (by decide +kernel) (by omega) ((er w (by rw [hsp]; exact hw)).go (g1.trans g2).1)
      · exact cEr.kc (by decide +kernel) (by omega) ((er w (by rw [hsp, hw]; rfl)).go g1.1)
theorem co_C (hG : cG n sl f0) : ∀ k, k ≤ 100 → cIC n sl f0 g L k := by
  intro k
  induction k with
  | zero => intro _; exact co_0 hG
  | succ j ih => intro hk; exact co_1 hG hk (cj_E hG j (by omega)) (ih (by omega))
end
