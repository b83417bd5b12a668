/-! the first object's reading: actions -/
def cIC (n sl : Nat) (f0 : Nat → mi_C) (g : Nat → Int32) (L k : Nat) : Prop := ∀ (e : Nat) (a : mh_A) (σ : ms_S) (Q : (Option Value ⊕ Nat) → mi_H → Prop), 2 * k + 12 ≤ e → cst a g L σ → cokE n sl f0 g L Q a σ (ms_C g L k σ) → cerE n sl f0 Q a (ms_C g L k σ) → mi_W e 37 0 (mi_en 6 [.ref 15, .int (Int32.ofNat (101 - k))]) [] (n, sl, hc a f0) Q
def ms_A1 (g : Nat → Int32) (L j op : Nat) (σ : ms_S) (KK : ms_N → ms_S → ms_S → ms_R Nat) : ms_R Nat := ms_eb (ms_ac g L (ms_E g L j) op (σ.add.nx g L)) (fun x σ1 => ms_eb (ms_C g L j σ1) (fun _ σ2 => KK x σ1 σ2))
def cokA (n sl : Nat) (f0 : Nat → mi_C) (g : Nat → Int32) (L : Nat) (Q : (Option Value ⊕ Nat) → mi_H → Prop) (a : mh_A) (σ : ms_S) (j op kt mt : Nat) : Prop := ∀ a' x σ1 σ2, (∀ KK, ms_A1 g L j op σ KK = KK x σ1 σ2) → x.1 = op → cst a' g L σ2 → cgo (cw kt mt (Int32.ofNat σ.n) a) σ a' σ2 → cRow a' (x.yz σ1.n 0) σ.n → crg (σ.n + 1) σ2.n a' σ2.tb → σ.n < σ2.n → Q (.inl (some (.int (Int32.ofNat σ.n)))) (n, sl, hc a' f0)
def cerA (n sl : Nat) (f0 : Nat → mi_C) (g : Nat → Int32) (L : Nat) (Q : (Option Value ⊕ Nat) → mi_H → Prop) (a : mh_A) (σ : ms_S) (j op : Nat) : Prop := ∀ w, (∀ KK, ms_A1 g L j op σ KK = .error w) → cEr n sl f0 Q a w
section
variable {d e n sl m kt mt j : Nat} {a a0 a1 : mh_A} {σ σ0 σ1 : ms_S} {f0 : Nat → mi_C} {Q : (Option Value ⊕ Nat) → mi_H → Prop} {g : Nat → Int32} {L : Nat} {v : Int64} {R : Nat → Int32} {x : Int32}
theorem cw_AL {k : Nat} : (cw kt mt x a).AL 2 3 k = a.AL 2 3 k := rfl
theorem cgo.rb (h : cgo a σ a1 σ1) (hm : mt < σ.n) : cgo (cw kt mt x a) σ (cw kt mt x a1) σ1 := by
  refine ⟨⟨fun c p k hc => ⟨(h.1.1 c p k hc).1, (h.1.1 c p k hc).2.1, ?_, (h.1.1 c p k hc).2.2.2⟩, h.1.2.1, h.1.2.2.1, ?_⟩, fun m hm => ⟨fun k hk => ?_, (h.2.1 m hm).2⟩, h.2.2.1, h.2.2.2⟩
  · exact (mh_u_c (by omega)).trans ((h.1.1 c p k hc).2.2.1.trans (mh_u_c (by omega)).symm)
  · exact h.1.2.2.2
  · by_cases e : k = kt ∧ m = mt
    · rw [e.1, e.2, cw_at, cw_at]
    · rw [cw_ne e, cw_ne e]
      exact (h.2.1 m hm).1 k hk
theorem cB.wo (h : cB a m R v) (hm : ¬ m = mt) : cB (cw kt mt x a) m R v := ⟨fun k hk => (cw_ne (fun z => hm z.2)).trans (h.1 k hk), h.2⟩
theorem ms_pa_t {i : Nat} {σ' : ms_S} (h : ms_pa g L σ = .ok (i, σ')) : σ'.t = ms_nx g L σ.t.b ∧ σ'.q = σ.q := by
  unfold ms_pa at h
  split at h
  · split at h
    · cases h
    · cases h
      exact ⟨rfl, rfl⟩
  · cases h
theorem ms_hc_t {i : Nat} {σ' : ms_S} (hL : σ.t.b ≤ L) (h : ms_hc g L σ = .ok (i, σ')) : σ.t.b ≤ σ'.t.a ∧ σ'.q = σ.q := by
  unfold ms_hc at h
  split at h
  · split at h
    · split at h
      · cases h
      · cases hy : ms_pa g L (σ.nx g L) with
        | error w => rw [hy] at h; cases h
        | ok q =>
          obtain ⟨y, σ2⟩ := q
          rw [hy, ms_eb_ok] at h
          have ht := ms_pa_t hy
          have h1 := ms_nx_le (g := g) (L := L) (p := σ.t.b) hL
          have h2 := ms_nx_le (g := g) (L := L) (p := (ms_nx g L σ.t.b).b) (by omega)
          have e1 : σ' = σ2.sH (ms_hh g L σ) := (congrArg Prod.snd (Except.ok.inj h)).symm
          have e2 : σ'.t = ms_nx g L (ms_nx g L σ.t.b).b := by rw [e1]; exact ht.1
          have e3 : σ'.q = σ.q := by rw [e1]; exact ht.2
          rw [e2]
          exact ⟨by omega, e3⟩
    · cases h
  · cases h
theorem cm_a7f {l2 l4 : Int32} (hG : cG n sl f0) (hl2 : l4 + 1 = Int32.ofNat (101 - j)) (hd : 2 * j + 3 ≤ e) (IHE : cIE n sl f0 g L j) (IHC : cIC n sl f0 g L j) (h : cst a g L σ0) (hk : σ0.t.k = 8) (hmt : mt < σ0.n) (ok : cokA n sl f0 g L Q a σ0 j 7 1 mt) (er : cerA n sl f0 g L Q a σ0 j 7) (er8 : σ0.n = 800 → cEr n sl f0 Q a σ0.t.a) : mi_W (e + 10) 51 39 [some (.ref 15), some (.int (Int32.ofNat mt)), some (.int (-1)), some (.int l4), some (.int 8), none] [] (n, sl, hc a f0) Q := by
  have hn := hG.1
  unfold cokA at ok
  unfold cerA at er
  have hm8 := h.2.1.2
  have hxt := ix_of (w := mt) (m := 800) (by omega) (by omega)
  refine b_51_39 _ _ _ (by first | (exact hc_o (by first | assumption | (exact ⟨by decide, rfl⟩))) | assumption | (exact (hc_far (by omega)).trans (by assumption))) (by omega) ?_
  refine cr_node (d := e + 2) hG h (fun h8 y1 v hs hg1 hv hB => ?_) (fun h8 => ?_)
  · have hsp : ∀ KK : ms_N → ms_S → ms_S → ms_R Nat, ms_A1 g L j 7 σ0 KK = ms_eb (ms_eb (ms_pa g L (σ0.add.nx g L)) (fun a σ => ms_eb (ms_pa g L σ) (fun b σ => ms_eb (ms_to g L σ) (fun t σ => ms_eb (ms_E g L j false σ) (fun _ σ1 => .ok ((7, a, b, t, 0, σ.n, 0, 0, 0, 0), σ1)))))) (fun x σ1 => ms_eb (ms_C g L j σ1) (fun _ σ2 => KK x σ1 σ2)) := fun _ => rfl
    rw [hk] at hB
    generalize hσ1 : σ0.add.nx g L = σ1 at *
    have hn1 : σ1.n = σ0.n + 1 := by rw [← hσ1]; rfl
    have hr : crg (σ0.n + 1) σ1.n y1 σ1.tb := by rw [hn1]; exact crg.nil
    have hx := ix_of (w := σ0.n) (m := 800) (by omega) (by omega)
    have hle1 := hs.2.1.2
    refine b_51_43 _ _ _ ?_ ?_
    · intro z43
      first | (exact absurd z43 (by decide)) | (exact absurd (by decide) z43) | (exact absurd rfl z43) | (exact absurd z43 (of_nn (by omega))) | (exact absurd (of_np (by omega)) z43) | omega
    · intro z43
      refine b_51_50 _ _ _ _ _ _ (by first | (exact hc_o (by first | assumption | (exact ⟨by decide, rfl⟩))) | assumption | (exact (hc_far (by omega)).trans (by assumption))) (by omega) (by first | rfl | assumption) (by first | (exact hc_o (by first | assumption | (exact ⟨by decide, rfl⟩))) | assumption | (exact (hc_far (by omega)).trans (by assumption))) (by omega) (by first | rfl | assumption) (by first | (exact hc_ai (by omega) (by first | assumption | (exact (ht9 (by assumption)).2.1) | (exact (ht9 (by assumption)).2.2.1) | (exact (ht9 (by assumption)).2.2.2) | rfl) (by decide)) | assumption | (exact (hc_far (by omega)).trans (by assumption))) (by omega) (by first | assumption | (exact ix_of (by omega) (by omega)) | (exact ⟨by decide, rfl, by decide⟩)) ?_
      refine hw_W (hw_AI (by omega) (by first | assumption | (exact (ht9 (by assumption)).2.1) | (exact (ht9 (by assumption)).2.2.1) | (exact (ht9 (by assumption)).2.2.2) | rfl) (by decide)) ?_
      show mi_W _ _ _ _ _ (n, sl, hc (cw 1 mt (Int32.ofNat σ0.n) y1) f0) _
      have hg := cgo.rb (kt := 1) (mt := mt) (x := Int32.ofNat σ0.n) hg1 hmt
      have hB := hB.wo (kt := 1) (mt := mt) (x := Int32.ofNat σ0.n) (by omega)
      have hs := hs.w (k := 1) (m := mt) (v := Int32.ofNat σ0.n)
      have hr := hr.w (k := 1) (m := mt) (v := Int32.ofNat σ0.n) (by omega)
      have er := fun w hw => (er w hw).go (cF.re.w (k := 1) (m := mt) (v := Int32.ofNat σ0.n))
      generalize cw 1 mt (Int32.ofNat σ0.n) y1 = y1 at *
      refine b_51_75 _ _ _ ?_ ?_
      · intro z75
        first | (exact absurd z75 (by decide)) | (exact absurd (by decide) z75) | (exact absurd rfl z75) | (exact absurd z75 (of_nn (by omega))) | (exact absurd (of_np (by omega)) z75) | omega
      · intro z75
        refine b_51_82 _ _ _ (by first | (exact hc_o (by first | assumption | (exact ⟨by decide, rfl⟩))) | assumption | (exact (hc_far (by omega)).trans (by assumption))) (by omega) (by first | rfl | assumption) (by first | (exact hc_o (by first | assumption | (exact ⟨by decide, rfl⟩))) | assumption | (exact (hc_far (by omega)).trans (by assumption))) (by omega) (by first | rfl | assumption) (by first | (exact hc_o (by first | assumption | (exact ⟨by decide, rfl⟩))) | assumption | (exact (hc_far (by omega)).trans (by assumption))) (by omega) (by first | rfl | assumption) (by first | (exact hc_o (by first | assumption | (exact ⟨by decide, rfl⟩))) | assumption | (exact (hc_far (by omega)).trans (by assumption))) (by omega) ?_
        refine cr_pa (d := e + 2) hG hs (fun i2 σ2 hok2 hi2 hnn2 hxx y2 hs gg => ?_) (fun w hw => ?_)
        · simp only [hok2, ms_eb_ok] at hsp
          have hB := hB.go gg (by omega)
          have hr := hr.go gg (Nat.le_refl _)
          rw [← hnn2] at hr
          have hg := hg.trans gg
          have hle2 := hs.2.1.2
          have hge2 := gg.2.2.1.1
          refine b_51_99 _ _ _ _ _ _ (by first | (exact hc_ai (by omega) (by first | assumption | (exact (ht9 (by assumption)).2.1) | (exact (ht9 (by assumption)).2.2.1) | (exact (ht9 (by assumption)).2.2.2) | rfl) (by decide)) | assumption | (exact (hc_far (by omega)).trans (by assumption))) (by omega) (by first | assumption | (exact ix_of (by omega) (by omega)) | (exact ⟨by decide, rfl, by decide⟩)) (by first | (exact (congrFun (hw_AI (by omega) (by first | assumption | (exact (ht9 (by assumption)).2.1) | (exact (ht9 (by assumption)).2.2.1) | (exact (ht9 (by assumption)).2.2.2) | rfl) (by decide)) _).trans (hc_o (by first | assumption | (exact ⟨by decide, rfl⟩)))) | assumption | (exact (hc_far (by omega)).trans (by assumption))) (by omega) (by first | rfl | assumption) (by first | (exact (congrFun (hw_AI (by omega) (by first | assumption | (exact (ht9 (by assumption)).2.1) | (exact (ht9 (by assumption)).2.2.1) | (exact (ht9 (by assumption)).2.2.2) | rfl) (by decide)) _).trans (hc_o (by first | assumption | (exact ⟨by decide, rfl⟩)))) | assumption | (exact (hc_far (by omega)).trans (by assumption))) (by omega) (by first | rfl | assumption) (by first | (exact (congrFun (hw_AI (by omega) (by first | assumption | (exact (ht9 (by assumption)).2.1) | (exact (ht9 (by assumption)).2.2.1) | (exact (ht9 (by assumption)).2.2.2) | rfl) (by decide)) _).trans (hc_o (by first | assumption | (exact ⟨by decide, rfl⟩)))) | assumption | (exact (hc_far (by omega)).trans (by assumption))) (by omega) (by first | rfl | assumption) (by first | (exact (congrFun (hw_AI (by omega) (by first | assumption | (exact (ht9 (by assumption)).2.1) | (exact (ht9 (by assumption)).2.2.1) | (exact (ht9 (by assumption)).2.2.2) | rfl) (by decide)) _).trans (hc_o (by first | assumption | (exact ⟨by decide, rfl⟩)))) | assumption | (exact (hc_far (by omega)).trans (by assumption))) (by omega) ?_
          refine hw_W (hw_AI (by omega) (by first | assumption | (exact (ht9 (by assumption)).2.1) | (exact (ht9 (by assumption)).2.2.1) | (exact (ht9 (by assumption)).2.2.2) | rfl) (by decide)) ?_
          show mi_W _ _ _ _ _ (n, sl, hc (cw 4 σ0.n (Int32.ofNat i2) y2) f0) _
          have hB := hB.w (k := 4) (v := Int32.ofNat i2)
          have hs := hs.w (k := 4) (m := σ0.n) (v := Int32.ofNat i2)
          have hg := hg.w (k := 4) (m := σ0.n) (v := Int32.ofNat i2) (by omega)
          have hr := hr.w (k := 4) (m := σ0.n) (v := Int32.ofNat i2) (Nat.lt_succ_self _)
          generalize cw 4 σ0.n (Int32.ofNat i2) y2 = y2 at *
          refine cr_pa (d := e + 2) hG hs (fun i3 σ3 hok3 hi3 hnn3 hxx y3 hs gg => ?_) (fun w hw => ?_)
          · simp only [hok3, ms_eb_ok] at hsp
            have hB := hB.go gg (by omega)
            have hr := hr.go gg (Nat.le_refl _)
            rw [← hnn3] at hr
            have hg := hg.trans gg
            have hle3 := hs.2.1.2
            have hge3 := gg.2.2.1.1
            refine b_51_117 _ _ _ _ _ _ (by first | (exact hc_ai (by omega) (by first | assumption | (exact (ht9 (by assumption)).2.1) | (exact (ht9 (by assumption)).2.2.1) | (exact (ht9 (by assumption)).2.2.2) | rfl) (by decide)) | assumption | (exact (hc_far (by omega)).trans (by assumption))) (by omega) (by first | assumption | (exact ix_of (by omega) (by omega)) | (exact ⟨by decide, rfl, by decide⟩)) (by first | (exact (congrFun (hw_AI (by omega) (by first | assumption | (exact (ht9 (by assumption)).2.1) | (exact (ht9 (by assumption)).2.2.1) | (exact (ht9 (by assumption)).2.2.2) | rfl) (by decide)) _).trans (hc_o (by first | assumption | (exact ⟨by decide, rfl⟩)))) | assumption | (exact (hc_far (by omega)).trans (by assumption))) (by omega) (by first | rfl | assumption) (by first | (exact (congrFun (hw_AI (by omega) (by first | assumption | (exact (ht9 (by assumption)).2.1) | (exact (ht9 (by assumption)).2.2.1) | (exact (ht9 (by assumption)).2.2.2) | rfl) (by decide)) _).trans (hc_o (by first | assumption | (exact ⟨by decide, rfl⟩)))) | assumption | (exact (hc_far (by omega)).trans (by assumption))) (by omega) (by first | rfl | assumption) (by first | (exact (congrFun (hw_AI (by omega) (by first | assumption | (exact (ht9 (by assumption)).2.1) | (exact (ht9 (by assumption)).2.2.1) | (exact (ht9 (by assumption)).2.2.2) | rfl) (by decide)) _).trans (hc_o (by first | assumption | (exact ⟨by decide, rfl⟩)))) | assumption | (exact (hc_far (by omega)).trans (by assumption))) (by omega) (by first | rfl | assumption) (by first | (exact (congrFun (hw_AI (by omega) (by first | assumption | (exact (ht9 (by assumption)).2.1) | (exact (ht9 (by assumption)).2.2.1) | (exact (ht9 (by assumption)).2.2.2) | rfl) (by decide)) _).trans (hc_o (by first | assumption | (exact ⟨by decide, rfl⟩)))) | assumption | (exact (hc_far (by omega)).trans (by assumption))) (by omega) ?_
            refine hw_W (hw_AI (by omega) (by first | assumption | (exact (ht9 (by assumption)).2.1) | (exact (ht9 (by assumption)).2.2.1) | (exact (ht9 (by assumption)).2.2.2) | rfl) (by decide)) ?_
            show mi_W _ _ _ _ _ (n, sl, hc (cw 5 σ0.n (Int32.ofNat i3) y3) f0) _
            have hB := hB.w (k := 5) (v := Int32.ofNat i3)
            have hs := hs.w (k := 5) (m := σ0.n) (v := Int32.ofNat i3)
            have hg := hg.w (k := 5) (m := σ0.n) (v := Int32.ofNat i3) (by omega)
            have hr := hr.w (k := 5) (m := σ0.n) (v := Int32.ofNat i3) (Nat.lt_succ_self _)
            generalize cw 5 σ0.n (Int32.ofNat i3) y3 = y3 at *
            refine cr_to (d := e + 2) hG hs (fun i4 σ4 hok4 hi4 hnn4 hxx y4 hs gg => ?_) (fun w hw => ?_)
            · simp only [hok4, ms_eb_ok] at hsp
              have hB := hB.go gg (by omega)
              have hr := hr.go gg (Nat.le_refl _)
              rw [← hnn4] at hr
              have hg := hg.trans gg
              have hle4 := hs.2.1.2
              have hge4 := gg.2.2.1.1
              refine b_51_135 _ _ _ _ _ _ (by first | (exact hc_ai (by omega) (by first | assumption | (exact (ht9 (by assumption)).2.1) | (exact (ht9 (by assumption)).2.2.1) | (exact (ht9 (by assumption)).2.2.2) | rfl) (by decide)) | assumption | (exact (hc_far (by omega)).trans (by assumption))) (by omega) (by first | assumption | (exact ix_of (by omega) (by omega)) | (exact ⟨by decide, rfl, by decide⟩)) (by first | (exact (congrFun (hw_AI (by omega) (by first | assumption | (exact (ht9 (by assumption)).2.1) | (exact (ht9 (by assumption)).2.2.1) | (exact (ht9 (by assumption)).2.2.2) | rfl) (by decide)) _).trans (hc_o (by first | assumption | (exact ⟨by decide, rfl⟩)))) | assumption | (exact (hc_far (by omega)).trans (by assumption))) (by omega) (by first | rfl | assumption) (by first | (exact (congrFun (hw_AI (by omega) (by first | assumption | (exact (ht9 (by assumption)).2.1) | (exact (ht9 (by assumption)).2.2.1) | (exact (ht9 (by assumption)).2.2.2) | rfl) (by decide)) _).trans (hc_o (by first | assumption | (exact ⟨by decide, rfl⟩)))) | assumption | (exact (hc_far (by omega)).trans (by assumption))) (by omega) (by first | rfl | assumption) (by first | (exact (congrFun (hw_AI (by omega) (by first | assumption | (exact (ht9 (by assumption)).2.1) | (exact (ht9 (by assumption)).2.2.1) | (exact (ht9 (by assumption)).2.2.2) | rfl) (by decide)) _).trans (hc_o (by first | assumption | (exact ⟨by decide, rfl⟩)))) | assumption | (exact (hc_far (by omega)).trans (by assumption))) (by omega) ?_
              refine hw_W (hw_AI (by omega) (by first | assumption | (exact (ht9 (by assumption)).2.1) | (exact (ht9 (by assumption)).2.2.1) | (exact (ht9 (by assumption)).2.2.2) | rfl) (by decide)) ?_
              show mi_W _ _ _ _ _ (n, sl, hc (cw 6 σ0.n (Int32.ofNat i4) y4) f0) _
              have hB := hB.w (k := 6) (v := Int32.ofNat i4)
              have hs := hs.w (k := 6) (m := σ0.n) (v := Int32.ofNat i4)
              have hg := hg.w (k := 6) (m := σ0.n) (v := Int32.ofNat i4) (by omega)
              have hr := hr.w (k := 6) (m := σ0.n) (v := Int32.ofNat i4) (Nat.lt_succ_self _)
              generalize cw 6 σ0.n (Int32.ofNat i4) y4 = y4 at *
              rw [hl2]
              refine IHE.1 (e + 9) _ _ _ (by omega) hs (fun y5 σ5 hok5 hs gg hrE e7 hlt5 => ?_) (fun w hw => ?_)
              · simp only [hok5, ms_eb_ok] at hsp
                have hB := hB.go gg (by omega)
                have hr := (hr.go gg (Nat.le_refl _)).join hrE (by omega)
                have hg := hg.trans gg
                have hle5 := hs.2.1.2
                have hge5 := gg.2.2.1.1
                refine b_51_152 _ _ _ _ _ _ (by first | (exact hc_ai (by omega) (by first | assumption | (exact (ht9 (by assumption)).2.1) | (exact (ht9 (by assumption)).2.2.1) | (exact (ht9 (by assumption)).2.2.2) | rfl) (by decide)) | assumption | (exact (hc_far (by omega)).trans (by assumption))) (by omega) (by first | assumption | (exact ix_of (by omega) (by omega)) | (exact ⟨by decide, rfl, by decide⟩)) ?_
                refine hw_W (hw_AI (by omega) (by first | assumption | (exact (ht9 (by assumption)).2.1) | (exact (ht9 (by assumption)).2.2.1) | (exact (ht9 (by assumption)).2.2.2) | rfl) (by decide)) ?_
                show mi_W _ _ _ _ _ (n, sl, hc (cw 1 σ0.n (Int32.ofNat σ4.n) y5) f0) _
                have hB := hB.w (k := 1) (v := Int32.ofNat σ4.n)
                have hs := hs.w (k := 1) (m := σ0.n) (v := Int32.ofNat σ4.n)
                have hg := hg.w (k := 1) (m := σ0.n) (v := Int32.ofNat σ4.n) (by omega)
                have hr := hr.w (k := 1) (m := σ0.n) (v := Int32.ofNat σ4.n) (Nat.lt_succ_self _)
                have e7 := (cw_ne (k := 1) (m := σ0.n) (v := Int32.ofNat σ4.n) (a := y5) (k' := 7) (m' := σ4.n) (fun z => by omega)).trans e7
                generalize cw 1 σ0.n (Int32.ofNat σ4.n) y5 = y5 at *
                refine b_51_203 _ _ _ (by first | (exact hc_o (by first | assumption | (exact ⟨by decide, rfl⟩))) | assumption | (exact (hc_far (by omega)).trans (by assumption))) (by omega) (by first | rfl | assumption) (by first | (exact hc_o (by first | assumption | (exact ⟨by decide, rfl⟩))) | assumption | (exact (hc_far (by omega)).trans (by assumption))) (by omega) (by first | rfl | assumption) (by first | (exact hc_o (by first | assumption | (exact ⟨by decide, rfl⟩))) | assumption | (exact (hc_far (by omega)).trans (by assumption))) (by omega) ?_
                rw [hl2]
                refine IHC (e + 9) _ _ _ (by omega) hs (fun y6 σ6 hok6 hs gg hrE e7 hlt6 => ?_) (fun w hw => ?_)
                · simp only [hok6, ms_eb_ok] at hsp
                  have hB := hB.go gg (by omega)
                  have hr := (hr.go gg (Nat.le_refl _)).join hrE (by omega)
                  have hg := hg.trans gg
                  have hle6 := hs.2.1.2
                  have hge6 := gg.2.2.1.1
                  refine b_51_219 _ _ _ _ _ _ (by first | (exact hc_ai (by omega) (by first | assumption | (exact (ht9 (by assumption)).2.1) | (exact (ht9 (by assumption)).2.2.1) | (exact (ht9 (by assumption)).2.2.2) | rfl) (by decide)) | assumption | (exact (hc_far (by omega)).trans (by assumption))) (by omega) (by first | assumption | (exact ix_of (by omega) (by omega)) | (exact ⟨by decide, rfl, by decide⟩)) ?_
                  refine hw_Q (hw_AI (by omega) (by first | assumption | (exact (ht9 (by assumption)).2.1) | (exact (ht9 (by assumption)).2.2.1) | (exact (ht9 (by assumption)).2.2.2) | rfl) (by decide)) ?_
                  show Q _ (n, sl, hc (cw 2 σ0.n (Int32.ofNat σ5.n) y6) f0)
                  have hB := hB.w (k := 2) (v := Int32.ofNat σ5.n)
                  have hs := hs.w (k := 2) (m := σ0.n) (v := Int32.ofNat σ5.n)
                  have hg := hg.w (k := 2) (m := σ0.n) (v := Int32.ofNat σ5.n) (by omega)
                  have hr := hr.w (k := 2) (m := σ0.n) (v := Int32.ofNat σ5.n) (Nat.lt_succ_self _)
                  have e7 := (cw_ne (k := 2) (m := σ0.n) (v := Int32.ofNat σ5.n) (a := y6) (k' := 7) (m' := σ5.n) (fun z => by omega)).trans e7
                  generalize cw 2 σ0.n (Int32.ofNat σ5.n) y6 = y6 at *
                  refine ok y6 (7, i2, i3, i4, 0, σ4.n, 0, 0, 0, 0) σ5 σ6 hsp rfl hs hg ⟨fun k hk9 h7 => ?_, ?_, ?_⟩ hr (by omega)
                  · rcases lt9 hk9 with rfl | rfl | rfl | rfl | rfl | rfl | rfl | rfl | rfl <;> first | exact absurd rfl h7 | exact hB.1 _ hk9
                  · refine hB.2.trans (hv.trans ?_)
                    rw [hk]
                    rfl
                  · exact hB.1 7 (by omega)
                · exact cEr.kc (by decide +kernel) (by omega) ((er w (fun KK => by rw [hsp, hw]; rfl)).go hg.1)
              · exact cEr.kc (by decide +kernel) (by omega) ((er w (fun KK => by rw [hsp, hw]; rfl)).go hg.1)
            · exact cEr.kc (by decide +kernel) (by omega) ((er w (fun KK => by rw [hsp, hw]; rfl)).go hg.1)
          · exact cEr.kc (by decide +kernel) (by omega) ((er w (fun KK => by rw [hsp, hw]; rfl)).go hg.1)
        · exact cEr.kc (by decide +kernel) (by omega) ((er w (fun KK => by rw [hsp, hw]; rfl)).go hg.1)
  · exact cEr.kc (by decide +kernel) (by omega) (er8 h8)
theorem cm_a7n {l2 l4 : Int32} (hG : cG n sl f0) (hl2 : l4 + 1 = Int32.ofNat (101 - j)) (hd : 2 * j + 3 ≤ e) (IHE : cIE n sl f0 g L j) (IHC : cIC n sl f0 g L j) (h : cst a g L σ0) (hk : σ0.t.k = 8) (hmt : mt < σ0.n) (ok : cokA n sl f0 g L Q a σ0 j 7 3 mt) (er : cerA n sl f0 g L Q a σ0 j 7) (er8 : σ0.n = 800 → cEr n sl f0 Q a σ0.t.a) : mi_W (e + 10) 51 39 [some (.ref 15), some (.int l2), some (.int (Int32.ofNat mt)), some (.int l4), some (.int 8), none] [] (n, sl, hc a f0) Q := by
  have hn := hG.1
  unfold cokA at ok
  unfold cerA at er
  have hm8 := h.2.1.2
  have hxt := ix_of (w := mt) (m := 800) (by omega) (by omega)
  refine b_51_39 _ _ _ (by first | (exact hc_o (by first | assumption | (exact ⟨by decide, rfl⟩))) | assumption | (exact (hc_far (by omega)).trans (by assumption))) (by omega) ?_
  refine cr_node (d := e + 2) hG h (fun h8 y1 v hs hg1 hv hB => ?_) (fun h8 => ?_)
  · have hsp : ∀ KK : ms_N → ms_S → ms_S → ms_R Nat, ms_A1 g L j 7 σ0 KK = ms_eb (ms_eb (ms_pa g L (σ0.add.nx g L)) (fun a σ => ms_eb (ms_pa g L σ) (fun b σ => ms_eb (ms_to g L σ) (fun t σ => ms_eb (ms_E g L j false σ) (fun _ σ1 => .ok ((7, a, b, t, 0, σ.n, 0, 0, 0, 0), σ1)))))) (fun x σ1 => ms_eb (ms_C g L j σ1) (fun _ σ2 => KK x σ1 σ2)) := fun _ => rfl
    rw [hk] at hB
    generalize hσ1 : σ0.add.nx g L = σ1 at *
    have hn1 : σ1.n = σ0.n + 1 := by rw [← hσ1]; rfl
    have hr : crg (σ0.n + 1) σ1.n y1 σ1.tb := by rw [hn1]; exact crg.nil
    have hx := ix_of (w := σ0.n) (m := 800) (by omega) (by omega)
    have hle1 := hs.2.1.2
    refine b_51_43 _ _ _ ?_ ?_
    · intro z43
      refine b_51_64 _ _ _ _ _ _ (by first | (exact hc_o (by first | assumption | (exact ⟨by decide, rfl⟩))) | assumption | (exact (hc_far (by omega)).trans (by assumption))) (by omega) (by first | rfl | assumption) (by first | (exact hc_o (by first | assumption | (exact ⟨by decide, rfl⟩))) | assumption | (exact (hc_far (by omega)).trans (by assumption))) (by omega) (by first | rfl | assumption) (by first | (exact hc_ai (by omega) (by first | assumption | (exact (ht9 (by assumption)).2.1) | (exact (ht9 (by assumption)).2.2.1) | (exact (ht9 (by assumption)).2.2.2) | rfl) (by decide)) | assumption | (exact (hc_far (by omega)).trans (by assumption))) (by omega) (by first | assumption | (exact ix_of (by omega) (by omega)) | (exact ⟨by decide, rfl, by decide⟩)) ?_
      refine hw_W (hw_AI (by omega) (by first | assumption | (exact (ht9 (by assumption)).2.1) | (exact (ht9 (by assumption)).2.2.1) | (exact (ht9 (by assumption)).2.2.2) | rfl) (by decide)) ?_
      show mi_W _ _ _ _ _ (n, sl, hc (cw 3 mt (Int32.ofNat σ0.n) y1) f0) _
      have hg := cgo.rb (kt := 3) (mt := mt) (x := Int32.ofNat σ0.n) hg1 hmt
      have hB := hB.wo (kt := 3) (mt := mt) (x := Int32.ofNat σ0.n) (by omega)
      have hs := hs.w (k := 3) (m := mt) (v := Int32.ofNat σ0.n)
      have hr := hr.w (k := 3) (m := mt) (v := Int32.ofNat σ0.n) (by omega)
      have er := fun w hw => (er w hw).go (cF.re.w (k := 3) (m := mt) (v := Int32.ofNat σ0.n))
      generalize cw 3 mt (Int32.ofNat σ0.n) y1 = y1 at *
      refine b_51_75 _ _ _ ?_ ?_
      · intro z75
        first | (exact absurd z75 (by decide)) | (exact absurd (by decide) z75) | (exact absurd rfl z75) | (exact absurd z75 (of_nn (by omega))) | (exact absurd (of_np (by omega)) z75) | omega
      · intro z75
        refine b_51_82 _ _ _ (by first | (exact hc_o (by first | assumption | (exact ⟨by decide, rfl⟩))) | assumption | (exact (hc_far (by omega)).trans (by assumption))) (by omega) (by first | rfl | assumption) (by first | (exact hc_o (by first | assumption | (exact ⟨by decide, rfl⟩))) | assumption | (exact (hc_far (by omega)).trans (by assumption))) (by omega) (by first | rfl | assumption) (by first | (exact hc_o (by first | assumption | (exact ⟨by decide, rfl⟩))) | assumption | (exact (hc_far (by omega)).trans (by assumption))) (by omega) (by first | rfl | assumption) (by first | (exact hc_o (by first | assumption | (exact ⟨by decide, rfl⟩))) | assumption | (exact (hc_far (by omega)).trans (by assumption))) (by omega) ?_
        refine cr_pa (d := e + 2) hG hs (fun i2 σ2 hok2 hi2 hnn2 hxx y2 hs gg => ?_) (fun w hw => ?_)
        · simp only [hok2, ms_eb_ok] at hsp
          have hB := hB.go gg (by omega)
          have hr := hr.go gg (Nat.le_refl _)
          rw [← hnn2] at hr
          have hg := hg.trans gg
          have hle2 := hs.2.1.2
          have hge2 := gg.2.2.1.1
          refine b_51_99 _ _ _ _ _ _ (by first | (exact hc_ai (by omega) (by first | assumption | (exact (ht9 (by assumption)).2.1) | (exact (ht9 (by assumption)).2.2.1) | (exact (ht9 (by assumption)).2.2.2) | rfl) (by decide)) | assumption | (exact (hc_far (by omega)).trans (by assumption))) (by omega) (by first | assumption | (exact ix_of (by omega) (by omega)) | (exact ⟨by decide, rfl, by decide⟩)) (by first | (exact (congrFun (hw_AI (by omega) (by first | assumption | (exact (ht9 (by assumption)).2.1) | (exact (ht9 (by assumption)).2.2.1) | (exact (ht9 (by assumption)).2.2.2) | rfl) (by decide)) _).trans (hc_o (by first | assumption | (exact ⟨by decide, rfl⟩)))) | assumption | (exact (hc_far (by omega)).trans (by assumption))) (by omega) (by first | rfl | assumption) (by first | (exact (congrFun (hw_AI (by omega) (by first | assumption | (exact (ht9 (by assumption)).2.1) | (exact (ht9 (by assumption)).2.2.1) | (exact (ht9 (by assumption)).2.2.2) | rfl) (by decide)) _).trans (hc_o (by first | assumption | (exact ⟨by decide, rfl⟩)))) | assumption | (exact (hc_far (by omega)).trans (by assumption))) (by omega) (by first | rfl | assumption) (by first | (exact (congrFun (hw_AI (by omega) (by first | assumption | (exact (ht9 (by assumption)).2.1) | (exact (ht9 (by assumption)).2.2.1) | (exact (ht9 (by assumption)).2.2.2) | rfl) (by decide)) _).trans (hc_o (by first | assumption | (exact ⟨by decide, rfl⟩)))) | assumption | (exact (hc_far (by omega)).trans (by assumption))) (by omega) (by first | rfl | assumption) (by first | (exact (congrFun (hw_AI (by omega) (by first | assumption | (exact (ht9 (by assumption)).2.1) | (exact (ht9 (by assumption)).2.2.1) | (exact (ht9 (by assumption)).2.2.2) | rfl) (by decide)) _).trans (hc_o (by first | assumption | (exact ⟨by decide, rfl⟩)))) | assumption | (exact (hc_far (by omega)).trans (by assumption))) (by omega) ?_
          refine hw_W (hw_AI (by omega) (by first | assumption | (exact (ht9 (by assumption)).2.1) | (exact (ht9 (by assumption)).2.2.1) | (exact (ht9 (by assumption)).2.2.2) | rfl) (by decide)) ?_
          show mi_W _ _ _ _ _ (n, sl, hc (cw 4 σ0.n (Int32.ofNat i2) y2) f0) _
          have hB := hB.w (k := 4) (v := Int32.ofNat i2)
          have hs := hs.w (k := 4) (m := σ0.n) (v := Int32.ofNat i2)
          have hg := hg.w (k := 4) (m := σ0.n) (v := Int32.ofNat i2) (by omega)
          have hr := hr.w (k := 4) (m := σ0.n) (v := Int32.ofNat i2) (Nat.lt_succ_self _)
          generalize cw 4 σ0.n (Int32.ofNat i2) y2 = y2 at *
          refine cr_pa (d := e + 2) hG hs (fun i3 σ3 hok3 hi3 hnn3 hxx y3 hs gg => ?_) (fun w hw => ?_)
          · simp only [hok3, ms_eb_ok] at hsp
            have hB := hB.go gg (by omega)
            have hr := hr.go gg (Nat.le_refl _)
            rw [← hnn3] at hr
            have hg := hg.trans gg
            have hle3 := hs.2.1.2
            have hge3 := gg.2.2.1.1
            refine b_51_117 _ _ _ _ _ _ (by first | (exact hc_ai (by omega) (by first | assumption | (exact (ht9 (by assumption)).2.1) | (exact (ht9 (by assumption)).2.2.1) | (exact (ht9 (by assumption)).2.2.2) | rfl) (by decide)) | assumption | (exact (hc_far (by omega)).trans (by assumption))) (by omega) (by first | assumption | (exact ix_of (by omega) (by omega)) | (exact ⟨by decide, rfl, by decide⟩)) (by first | (exact (congrFun (hw_AI (by omega) (by first | assumption | (exact (ht9 (by assumption)).2.1) | (exact (ht9 (by assumption)).2.2.1) | (exact (ht9 (by assumption)).2.2.2) | rfl) (by decide)) _).trans (hc_o (by first | assumption | (exact ⟨by decide, rfl⟩)))) | assumption | (exact (hc_far (by omega)).trans (by assumption))) (by omega) (by first | rfl | assumption) (by first | (exact (congrFun (hw_AI (by omega) (by first | assumption | (exact (ht9 (by assumption)).2.1) | (exact (ht9 (by assumption)).2.2.1) | (exact (ht9 (by assumption)).2.2.2) | rfl) (by decide)) _).trans (hc_o (by first | assumption | (exact ⟨by decide, rfl⟩)))) | assumption | (exact (hc_far (by omega)).trans (by assumption))) (by omega) (by first | rfl | assumption) (by first | (exact (congrFun (hw_AI (by omega) (by first | assumption | (exact (ht9 (by assumption)).2.1) | (exact (ht9 (by assumption)).2.2.1) | (exact (ht9 (by assumption)).2.2.2) | rfl) (by decide)) _).trans (hc_o (by first | assumption | (exact ⟨by decide, rfl⟩)))) | assumption | (exact (hc_far (by omega)).trans (by assumption))) (by omega) (by first | rfl | assumption) (by first | (exact (congrFun (hw_AI (by omega) (by first | assumption | (exact (ht9 (by assumption)).2.1) | (exact (ht9 (by assumption)).2.2.1) | (exact (ht9 (by assumption)).2.2.2) | rfl) (by decide)) _).trans (hc_o (by first | assumption | (exact ⟨by decide, rfl⟩)))) | assumption | (exact (hc_far (by omega)).trans (by assumption))) (by omega) ?_
            refine hw_W (hw_AI (by omega) (by first | assumption | (exact (ht9 (by assumption)).2.1) | (exact (ht9 (by assumption)).2.2.1) | (exact (ht9 (by assumption)).2.2.2) | rfl) (by decide)) ?_
            show mi_W _ _ _ _ _ (n, sl, hc (cw 5 σ0.n (Int32.ofNat i3) y3) f0) _
            have hB := hB.w (k := 5) (v := Int32.ofNat i3)
            have hs := hs.w (k := 5) (m := σ0.n) (v := Int32.ofNat i3)
            have hg := hg.w (k := 5) (m := σ0.n) (v := Int32.ofNat i3) (by omega)
            have hr := hr.w (k := 5) (m := σ0.n) (v := Int32.ofNat i3) (Nat.lt_succ_self _)
            generalize cw 5 σ0.n (Int32.ofNat i3) y3 = y3 at *
            refine cr_to (d := e + 2) hG hs (fun i4 σ4 hok4 hi4 hnn4 hxx y4 hs gg => ?_) (fun w hw => ?_)
            · simp only [hok4, ms_eb_ok] at hsp
              have hB := hB.go gg (by omega)
              have hr := hr.go gg (Nat.le_refl _)
              rw [← hnn4] at hr
              have hg := hg.trans gg
              have hle4 := hs.2.1.2
              have hge4 := gg.2.2.1.1
              refine b_51_135 _ _ _ _ _ _ (by first | (exact hc_ai (by omega) (by first | assumption | (exact (ht9 (by assumption)).2.1) | (exact (ht9 (by assumption)).2.2.1) | (exact (ht9 (by assumption)).2.2.2) | rfl) (by decide)) | assumption | (exact (hc_far (by omega)).trans (by assumption))) (by omega) (by first | assumption | (exact ix_of (by omega) (by omega)) | (exact ⟨by decide, rfl, by decide⟩)) (by first | (exact (congrFun (hw_AI (by omega) (by first | assumption | (exact (ht9 (by assumption)).2.1) | (exact (ht9 (by assumption)).2.2.1) | (exact (ht9 (by assumption)).2.2.2) | rfl) (by decide)) _).trans (hc_o (by first | assumption | (exact ⟨by decide, rfl⟩)))) | assumption | (exact (hc_far (by omega)).trans (by assumption))) (by omega) (by first | rfl | assumption) (by first | (exact (congrFun (hw_AI (by omega) (by first | assumption | (exact (ht9 (by assumption)).2.1) | (exact (ht9 (by assumption)).2.2.1) | (exact (ht9 (by assumption)).2.2.2) | rfl) (by decide)) _).trans (hc_o (by first | assumption | (exact ⟨by decide, rfl⟩)))) | assumption | (exact (hc_far (by omega)).trans (by assumption))) (by omega) (by first | rfl | assumption) (by first | (exact (congrFun (hw_AI (by omega) (by first | assumption | (exact (ht9 (by assumption)).2.1) | (exact (ht9 (by assumption)).2.2.1) | (exact (ht9 (by assumption)).2.2.2) | rfl) (by decide)) _).trans (hc_o (by first | assumption | (exact ⟨by decide, rfl⟩)))) | assumption | (exact (hc_far (by omega)).trans (by assumption))) (by omega) ?_
              refine hw_W (hw_AI (by omega) (by first | assumption | (exact (ht9 (by assumption)).2.1) | (exact (ht9 (by assumption)).2.2.1) | (exact (ht9 (by assumption)).2.2.2) | rfl) (by decide)) ?_
              show mi_W _ _ _ _ _ (n, sl, hc (cw 6 σ0.n (Int32.ofNat i4) y4) f0) _
              have hB := hB.w (k := 6) (v := Int32.ofNat i4)
              have hs := hs.w (k := 6) (m := σ0.n) (v := Int32.ofNat i4)
              have hg := hg.w (k := 6) (m := σ0.n) (v := Int32.ofNat i4) (by omega)
              have hr := hr.w (k := 6) (m := σ0.n) (v := Int32.ofNat i4) (Nat.lt_succ_self _)
              generalize cw 6 σ0.n (Int32.ofNat i4) y4 = y4 at *
              rw [hl2]
              refine IHE.1 (e + 9) _ _ _ (by omega) hs (fun y5 σ5 hok5 hs gg hrE e7 hlt5 => ?_) (fun w hw => ?_)
              · simp only [hok5, ms_eb_ok] at hsp
                have hB := hB.go gg (by omega)
                have hr := (hr.go gg (Nat.le_refl _)).join hrE (by omega)
                have hg := hg.trans gg
                have hle5 := hs.2.1.2
                have hge5 := gg.2.2.1.1
                refine b_51_152 _ _ _ _ _ _ (by first | (exact hc_ai (by omega) (by first | assumption | (exact (ht9 (by assumption)).2.1) | (exact (ht9 (by assumption)).2.2.1) | (exact (ht9 (by assumption)).2.2.2) | rfl) (by decide)) | assumption | (exact (hc_far (by omega)).trans (by assumption))) (by omega) (by first | assumption | (exact ix_of (by omega) (by omega)) | (exact ⟨by decide, rfl, by decide⟩)) ?_
                refine hw_W (hw_AI (by omega) (by first | assumption | (exact (ht9 (by assumption)).2.1) | (exact (ht9 (by assumption)).2.2.1) | (exact (ht9 (by assumption)).2.2.2) | rfl) (by decide)) ?_
                show mi_W _ _ _ _ _ (n, sl, hc (cw 1 σ0.n (Int32.ofNat σ4.n) y5) f0) _
                have hB := hB.w (k := 1) (v := Int32.ofNat σ4.n)
                have hs := hs.w (k := 1) (m := σ0.n) (v := Int32.ofNat σ4.n)
                have hg := hg.w (k := 1) (m := σ0.n) (v := Int32.ofNat σ4.n) (by omega)
                have hr := hr.w (k := 1) (m := σ0.n) (v := Int32.ofNat σ4.n) (Nat.lt_succ_self _)
                have e7 := (cw_ne (k := 1) (m := σ0.n) (v := Int32.ofNat σ4.n) (a := y5) (k' := 7) (m' := σ4.n) (fun z => by omega)).trans e7
                generalize cw 1 σ0.n (Int32.ofNat σ4.n) y5 = y5 at *
                refine b_51_203 _ _ _ (by first | (exact hc_o (by first | assumption | (exact ⟨by decide, rfl⟩))) | assumption | (exact (hc_far (by omega)).trans (by assumption))) (by omega) (by first | rfl | assumption) (by first | (exact hc_o (by first | assumption | (exact ⟨by decide, rfl⟩))) | assumption | (exact (hc_far (by omega)).trans (by assumption))) (by omega) (by first | rfl | assumption) (by first | (exact hc_o (by first | assumption | (exact ⟨by decide, rfl⟩))) | assumption | (exact (hc_far (by omega)).trans (by assumption))) (by omega) ?_
                rw [hl2]
                refine IHC (e + 9) _ _ _ (by omega) hs (fun y6 σ6 hok6 hs gg hrE e7 hlt6 => ?_) (fun w hw => ?_)
                · simp only [hok6, ms_eb_ok] at hsp
                  have hB := hB.go gg (by omega)
                  have hr := (hr.go gg (Nat.le_refl _)).join hrE (by omega)
                  have hg := hg.trans gg
                  have hle6 := hs.2.1.2
                  have hge6 := gg.2.2.1.1
                  refine b_51_219 _ _ _ _ _ _ (by first | (exact hc_ai (by omega) (by first | assumption | (exact (ht9 (by assumption)).2.1) | (exact (ht9 (by assumption)).2.2.1) | (exact (ht9 (by assumption)).2.2.2) | rfl) (by decide)) | assumption | (exact (hc_far (by omega)).trans (by assumption))) (by omega) (by first | assumption | (exact ix_of (by omega) (by omega)) | (exact ⟨by decide, rfl, by decide⟩)) ?_
                  refine hw_Q (hw_AI (by omega) (by first | assumption | (exact (ht9 (by assumption)).2.1) | (exact (ht9 (by assumption)).2.2.1) | (exact (ht9 (by assumption)).2.2.2) | rfl) (by decide)) ?_
                  show Q _ (n, sl, hc (cw 2 σ0.n (Int32.ofNat σ5.n) y6) f0)
                  have hB := hB.w (k := 2) (v := Int32.ofNat σ5.n)
                  have hs := hs.w (k := 2) (m := σ0.n) (v := Int32.ofNat σ5.n)
                  have hg := hg.w (k := 2) (m := σ0.n) (v := Int32.ofNat σ5.n) (by omega)
                  have hr := hr.w (k := 2) (m := σ0.n) (v := Int32.ofNat σ5.n) (Nat.lt_succ_self _)
                  have e7 := (cw_ne (k := 2) (m := σ0.n) (v := Int32.ofNat σ5.n) (a := y6) (k' := 7) (m' := σ5.n) (fun z => by omega)).trans e7
                  generalize cw 2 σ0.n (Int32.ofNat σ5.n) y6 = y6 at *
                  refine ok y6 (7, i2, i3, i4, 0, σ4.n, 0, 0, 0, 0) σ5 σ6 hsp rfl hs hg ⟨fun k hk9 h7 => ?_, ?_, ?_⟩ hr (by omega)
                  · rcases lt9 hk9 with rfl | rfl | rfl | rfl | rfl | rfl | rfl | rfl | rfl <;> first | exact absurd rfl h7 | exact hB.1 _ hk9
                  · refine hB.2.trans (hv.trans ?_)
                    rw [hk]
                    rfl
                  · exact hB.1 7 (by omega)
                · exact cEr.kc (by decide +kernel) (by omega) ((er w (fun KK => by rw [hsp, hw]; rfl)).go hg.1)
              · exact cEr.kc (by decide +kernel) (by omega) ((er w (fun KK => by rw [hsp, hw]; rfl)).go hg.1)
            · exact cEr.kc (by decide +kernel) (by omega) ((er w (fun KK => by rw [hsp, hw]; rfl)).go hg.1)
          · exact cEr.kc (by decide +kernel) (by omega) ((er w (fun KK => by rw [hsp, hw]; rfl)).go hg.1)
        · exact cEr.kc (by decide +kernel) (by omega) ((er w (fun KK => by rw [hsp, hw]; rfl)).go hg.1)
    · intro z43
      exact absurd (Classical.not_not.mp z43) (of_m1 (by omega))
  · exact cEr.kc (by decide +kernel) (by omega) (er8 h8)
theorem cm_a8f {l2 l4 : Int32} (hG : cG n sl f0) (hl2 : l4 + 1 = Int32.ofNat (101 - j)) (hd : 2 * j + 3 ≤ e) (IHE : cIE n sl f0 g L j) (IHC : cIC n sl f0 g L j) (h : cst a g L σ0) (hk : σ0.t.k = 9) (hmt : mt < σ0.n) (ok : cokA n sl f0 g L Q a σ0 j 8 1 mt) (er : cerA n sl f0 g L Q a σ0 j 8) (er8 : σ0.n = 800 → cEr n sl f0 Q a σ0.t.a) : mi_W (e + 10) 51 39 [some (.ref 15), some (.int (Int32.ofNat mt)), some (.int (-1)), some (.int l4), some (.int 9), none] [] (n, sl, hc a f0) Q := by
  have hn := hG.1
  unfold cokA at ok
  unfold cerA at er
  have hm8 := h.2.1.2
  have hxt := ix_of (w := mt) (m := 800) (by omega) (by omega)
  refine b_51_39 _ _ _ (by first | (exact hc_o (by first | assumption | (exact ⟨by decide, rfl⟩))) | assumption | (exact (hc_far (by omega)).trans (by assumption))) (by omega) ?_
  refine cr_node (d := e + 2) hG h (fun h8 y1 v hs hg1 hv hB => ?_) (fun h8 => ?_)
  · have hsp : ∀ KK : ms_N → ms_S → ms_S → ms_R Nat, ms_A1 g L j 8 σ0 KK = ms_eb (ms_eb (ms_hc g L (σ0.add.nx g L)) (fun h σ => ms_eb (ms_need g L (ms_kc 51) σ) (fun _ σ => ms_eb (ms_bs g L L σ) (fun _ σ1 => .ok ((8, h, 0, 0, 0, 0, 0, 0, σ1.q - σ.q, σ.q), σ1))))) (fun x σ1 => ms_eb (ms_C g L j σ1) (fun _ σ2 => KK x σ1 σ2)) := fun _ => rfl
    rw [hk] at hB
    generalize hσ1 : σ0.add.nx g L = σ1 at *
    have hn1 : σ1.n = σ0.n + 1 := by rw [← hσ1]; rfl
    have hr : crg (σ0.n + 1) σ1.n y1 σ1.tb := by rw [hn1]; exact crg.nil
    have hx := ix_of (w := σ0.n) (m := 800) (by omega) (by omega)
    have hle1 := hs.2.1.2
    refine b_51_43 _ _ _ ?_ ?_
    · intro z43
      first | (exact absurd z43 (by decide)) | (exact absurd (by decide) z43) | (exact absurd rfl z43) | (exact absurd z43 (of_nn (by omega))) | (exact absurd (of_np (by omega)) z43) | omega
    · intro z43
      refine b_51_50 _ _ _ _ _ _ (by first | (exact hc_o (by first | assumption | (exact ⟨by decide, rfl⟩))) | assumption | (exact (hc_far (by omega)).trans (by assumption))) (by omega) (by first | rfl | assumption) (by first | (exact hc_o (by first | assumption | (exact ⟨by decide, rfl⟩))) | assumption | (exact (hc_far (by omega)).trans (by assumption))) (by omega) (by first | rfl | assumption) (by first | (exact hc_ai (by omega) (by first | assumption | (exact (ht9 (by assumption)).2.1) | (exact (ht9 (by assumption)).2.2.1) | (exact (ht9 (by assumption)).2.2.2) | rfl) (by decide)) | assumption | (exact (hc_far (by omega)).trans (by assumption))) (by omega) (by first | assumption | (exact ix_of (by omega) (by omega)) | (exact ⟨by decide, rfl, by decide⟩)) ?_
      refine hw_W (hw_AI (by omega) (by first | assumption | (exact (ht9 (by assumption)).2.1) | (exact (ht9 (by assumption)).2.2.1) | (exact (ht9 (by assumption)).2.2.2) | rfl) (by decide)) ?_
      show mi_W _ _ _ _ _ (n, sl, hc (cw 1 mt (Int32.ofNat σ0.n) y1) f0) _
      have hg := cgo.rb (kt := 1) (mt := mt) (x := Int32.ofNat σ0.n) hg1 hmt
      have hB := hB.wo (kt := 1) (mt := mt) (x := Int32.ofNat σ0.n) (by omega)
      have hs := hs.w (k := 1) (m := mt) (v := Int32.ofNat σ0.n)
      have hr := hr.w (k := 1) (m := mt) (v := Int32.ofNat σ0.n) (by omega)
      have er := fun w hw => (er w hw).go (cF.re.w (k := 1) (m := mt) (v := Int32.ofNat σ0.n))
      generalize cw 1 mt (Int32.ofNat σ0.n) y1 = y1 at *
      refine b_51_75 _ _ _ ?_ ?_
      · intro z75
        refine b_51_156 _ _ _ ?_ ?_
        · intro z156
          first | (exact absurd z156 (by decide)) | (exact absurd (by decide) z156) | (exact absurd rfl z156) | (exact absurd z156 (of_nn (by omega))) | (exact absurd (of_np (by omega)) z156) | omega
        · intro z156
          have hq1 := hs.2.2.1.2.1
          have hb1 := hs.1.le.2.1
          refine b_51_163 _ _ _ (by first | (exact hc_o (by first | assumption | (exact ⟨by decide, rfl⟩))) | assumption | (exact (hc_far (by omega)).trans (by assumption))) (by omega) (by first | rfl | assumption) (by first | (exact hc_o (by first | assumption | (exact ⟨by decide, rfl⟩))) | assumption | (exact (hc_far (by omega)).trans (by assumption))) (by omega) (by first | rfl | assumption) (by first | (exact hc_o (by first | assumption | (exact ⟨by decide, rfl⟩))) | assumption | (exact (hc_far (by omega)).trans (by assumption))) (by omega) ?_
          refine cr_hc (d := e + 1) hG hs (fun i2 σ2 hok2 hi2 hnn2 y2 hs gg => ?_) (fun w hw => ?_)
          · simp only [hok2, ms_eb_ok] at hsp
            have hB := hB.go gg (by omega)
            have hr := hr.go gg (Nat.le_refl _)
            rw [← hnn2] at hr
            have hg := hg.trans gg
            have hle2 := hs.2.1.2
            have hge2 := gg.2.2.1.1
            refine b_51_176 _ _ _ _ _ _ (by first | (exact hc_ai (by omega) (by first | assumption | (exact (ht9 (by assumption)).2.1) | (exact (ht9 (by assumption)).2.2.1) | (exact (ht9 (by assumption)).2.2.2) | rfl) (by decide)) | assumption | (exact (hc_far (by omega)).trans (by assumption))) (by omega) (by first | assumption | (exact ix_of (by omega) (by omega)) | (exact ⟨by decide, rfl, by decide⟩)) (by first | (exact (congrFun (hw_AI (by omega) (by first | assumption | (exact (ht9 (by assumption)).2.1) | (exact (ht9 (by assumption)).2.2.1) | (exact (ht9 (by assumption)).2.2.2) | rfl) (by decide)) _).trans (hc_o (by first | assumption | (exact ⟨by decide, rfl⟩)))) | assumption | (exact (hc_far (by omega)).trans (by assumption))) (by omega) ?_
            refine hw_W (hw_AI (by omega) (by first | assumption | (exact (ht9 (by assumption)).2.1) | (exact (ht9 (by assumption)).2.2.1) | (exact (ht9 (by assumption)).2.2.2) | rfl) (by decide)) ?_
            show mi_W _ _ _ _ _ (n, sl, hc (cw 4 σ0.n (Int32.ofNat i2) y2) f0) _
            have hB := hB.w (k := 4) (v := Int32.ofNat i2)
            have hs := hs.w (k := 4) (m := σ0.n) (v := Int32.ofNat i2)
            have hg := hg.w (k := 4) (m := σ0.n) (v := Int32.ofNat i2) (by omega)
            have hr := hr.w (k := 4) (m := σ0.n) (v := Int32.ofNat i2) (Nat.lt_succ_self _)
            generalize cw 4 σ0.n (Int32.ofNat i2) y2 = y2 at *
            have hct := ms_hc_t hb1 hok2
            refine cr_bd (e := e + 1) hG hs hg hB hr (Nat.le_refl _) (by omega) (by omega) (fun σ9 y9 hne9 hbs9 hs hg hB hr hnn9 hqq9 => ?_) (fun w hw => ?_) (fun w hne hw => ?_)
            · simp only [hne9, hbs9, ms_eb_ok, ms_nx_q] at hsp
              have hle9 := hs.2.1.2
              refine b_51_183 _ _ _ ?_
              refine b_51_203 _ _ _ (by first | (exact hc_o (by first | assumption | (exact ⟨by decide, rfl⟩))) | assumption | (exact (hc_far (by omega)).trans (by assumption))) (by omega) (by first | rfl | assumption) (by first | (exact hc_o (by first | assumption | (exact ⟨by decide, rfl⟩))) | assumption | (exact (hc_far (by omega)).trans (by assumption))) (by omega) (by first | rfl | assumption) (by first | (exact hc_o (by first | assumption | (exact ⟨by decide, rfl⟩))) | assumption | (exact (hc_far (by omega)).trans (by assumption))) (by omega) ?_
              rw [hl2]
              refine IHC (e + 9) _ _ _ (by omega) hs (fun y10 σ10 hok10 hs gg hrE e7 hlt10 => ?_) (fun w hw => ?_)
              · simp only [hok10, ms_eb_ok] at hsp
                have hB := hB.go gg (by omega)
                have hr := (hr.go gg (Nat.le_refl _)).join hrE (by omega)
                have hg := hg.trans gg
                have hle10 := hs.2.1.2
                have hge10 := gg.2.2.1.1
                refine b_51_219 _ _ _ _ _ _ (by first | (exact hc_ai (by omega) (by first | assumption | (exact (ht9 (by assumption)).2.1) | (exact (ht9 (by assumption)).2.2.1) | (exact (ht9 (by assumption)).2.2.2) | rfl) (by decide)) | assumption | (exact (hc_far (by omega)).trans (by assumption))) (by omega) (by first | assumption | (exact ix_of (by omega) (by omega)) | (exact ⟨by decide, rfl, by decide⟩)) ?_
                refine hw_Q (hw_AI (by omega) (by first | assumption | (exact (ht9 (by assumption)).2.1) | (exact (ht9 (by assumption)).2.2.1) | (exact (ht9 (by assumption)).2.2.2) | rfl) (by decide)) ?_
                show Q _ (n, sl, hc (cw 2 σ0.n (Int32.ofNat σ9.n) y10) f0)
                have hB := hB.w (k := 2) (v := Int32.ofNat σ9.n)
                have hs := hs.w (k := 2) (m := σ0.n) (v := Int32.ofNat σ9.n)
                have hg := hg.w (k := 2) (m := σ0.n) (v := Int32.ofNat σ9.n) (by omega)
                have hr := hr.w (k := 2) (m := σ0.n) (v := Int32.ofNat σ9.n) (Nat.lt_succ_self _)
                have e7 := (cw_ne (k := 2) (m := σ0.n) (v := Int32.ofNat σ9.n) (a := y10) (k' := 7) (m' := σ9.n) (fun z => by omega)).trans e7
                generalize cw 2 σ0.n (Int32.ofNat σ9.n) y10 = y10 at *
                refine ok y10 (8, i2, 0, 0, 0, 0, 0, 0, σ9.q - σ2.q, σ2.q) σ9 σ10 hsp rfl hs hg ⟨fun k hk9 h7 => ?_, ?_, ?_⟩ hr (by omega)
                · rcases lt9 hk9 with rfl | rfl | rfl | rfl | rfl | rfl | rfl | rfl | rfl <;> first | exact absurd rfl h7 | exact hB.1 _ hk9 | exact (hB.1 6 hk9).trans (congrArg Int32.ofNat (show 2 * σ9.q = 2 * (σ2.q + (σ9.q - σ2.q)) by omega))
                · refine hB.2.trans (hv.trans ?_)
                  rw [hk]
                  rfl
                · exact hB.1 7 (by omega)
              · exact cEr.kc (by decide +kernel) (by omega) ((er w (fun KK => by rw [hsp, hw]; rfl)).go hg.1)
            · exact cEr.kc (by decide +kernel) (by omega) (er w (fun KK => by rw [hsp, hw]; rfl))
            · exact cEr.kc (by decide +kernel) (by omega) (er w (fun KK => by rw [hsp, hne, ms_eb_ok, hw]; rfl))
          · exact cEr.kc (by decide +kernel) (by omega) ((er w (fun KK => by rw [hsp, hw]; rfl)).go hg.1)
      · intro z75
        first | (exact absurd z75 (by decide)) | (exact absurd (by decide) z75) | (exact absurd rfl z75) | (exact absurd z75 (of_nn (by omega))) | (exact absurd (of_np (by omega)) z75) | omega
  · exact cEr.kc (by decide +kernel) (by omega) (er8 h8)
theorem cm_a8n {l2 l4 : Int32} (hG : cG n sl f0) (hl2 : l4 + 1 = Int32.ofNat (101 - j)) (hd : 2 * j + 3 ≤ e) (IHE : cIE n sl f0 g L j) (IHC : cIC n sl f0 g L j) (h : cst a g L σ0) (hk : σ0.t.k = 9) (hmt : mt < σ0.n) (ok : cokA n sl f0 g L Q a σ0 j 8 3 mt) (er : cerA n sl f0 g L Q a σ0 j 8) (er8 : σ0.n = 800 → cEr n sl f0 Q a σ0.t.a) : mi_W (e + 10) 51 39 [some (.ref 15), some (.int l2), some (.int (Int32.ofNat mt)), some (.int l4), some (.int 9), none] [] (n, sl, hc a f0) Q := by
  have hn := hG.1
  unfold cokA at ok
  unfold cerA at er
  have hm8 := h.2.1.2
  have hxt := ix_of (w := mt) (m := 800) (by omega) (by omega)
  refine b_51_39 _ _ _ (by first | (exact hc_o (by first | assumption | (exact ⟨by decide, rfl⟩))) | assumption | (exact (hc_far (by omega)).trans (by assumption))) (by omega) ?_
  refine cr_node (d := e + 2) hG h (fun h8 y1 v hs hg1 hv hB => ?_) (fun h8 => ?_)
  · have hsp : ∀ KK : ms_N → ms_S → ms_S → ms_R Nat, ms_A1 g L j 8 σ0 KK = ms_eb (ms_eb (ms_hc g L (σ0.add.nx g L)) (fun h σ => ms_eb (ms_need g L (ms_kc 51) σ) (fun _ σ => ms_eb (ms_bs g L L σ) (fun _ σ1 => .ok ((8, h, 0, 0, 0, 0, 0, 0, σ1.q - σ.q, σ.q), σ1))))) (fun x σ1 => ms_eb (ms_C g L j σ1) (fun _ σ2 => KK x σ1 σ2)) := fun _ => rfl
    rw [hk] at hB
    generalize hσ1 : σ0.add.nx g L = σ1 at *
    have hn1 : σ1.n = σ0.n + 1 := by rw [← hσ1]; rfl
    have hr : crg (σ0.n + 1) σ1.n y1 σ1.tb := by rw [hn1]; exact crg.nil
    have hx := ix_of (w := σ0.n) (m := 800) (by omega) (by omega)
    have hle1 := hs.2.1.2
    refine b_51_43 _ _ _ ?_ ?_
    · intro z43
      refine b_51_64 _ _ _ _ _ _ (by first | (exact hc_o (by first | assumption | (exact ⟨by decide, rfl⟩))) | assumption | (exact (hc_far (by omega)).trans (by assumption))) (by omega) (by first | rfl | assumption) (by first | (exact hc_o (by first | assumption | (exact ⟨by decide, rfl⟩))) | assumption | (exact (hc_far (by omega)).trans (by assumption))) (by omega) (by first | rfl | assumption) (by first | (exact hc_ai (by omega) (by first | assumption | (exact (ht9 (by assumption)).2.1) | (exact (ht9 (by assumption)).2.2.1) | (exact (ht9 (by assumption)).2.2.2) | rfl) (by decide)) | assumption | (exact (hc_far (by omega)).trans (by assumption))) (by omega) (by first | assumption | (exact ix_of (by omega) (by omega)) | (exact ⟨by decide, rfl, by decide⟩)) ?_
      refine hw_W (hw_AI (by omega) (by first | assumption | (exact (ht9 (by assumption)).2.1) | (exact (ht9 (by assumption)).2.2.1) | (exact (ht9 (by assumption)).2.2.2) | rfl) (by decide)) ?_
      show mi_W _ _ _ _ _ (n, sl, hc (cw 3 mt (Int32.ofNat σ0.n) y1) f0) _
      have hg := cgo.rb (kt := 3) (mt := mt) (x := Int32.ofNat σ0.n) hg1 hmt
      have hB := hB.wo (kt := 3) (mt := mt) (x := Int32.ofNat σ0.n) (by omega)
      have hs := hs.w (k := 3) (m := mt) (v := Int32.ofNat σ0.n)
      have hr := hr.w (k := 3) (m := mt) (v := Int32.ofNat σ0.n) (by omega)
      have er := fun w hw => (er w hw).go (cF.re.w (k := 3) (m := mt) (v := Int32.ofNat σ0.n))
      generalize cw 3 mt (Int32.ofNat σ0.n) y1 = y1 at *
      refine b_51_75 _ _ _ ?_ ?_
      · intro z75
        refine b_51_156 _ _ _ ?_ ?_
        · intro z156
          first | (exact absurd z156 (by decide)) | (exact absurd (by decide) z156) | (exact absurd rfl z156) | (exact absurd z156 (of_nn (by omega))) | (exact absurd (of_np (by omega)) z156) | omega
        · intro z156
          have hq1 := hs.2.2.1.2.1
          have hb1 := hs.1.le.2.1
          refine b_51_163 _ _ _ (by first | (exact hc_o (by first | assumption | (exact ⟨by decide, rfl⟩))) | assumption | (exact (hc_far (by omega)).trans (by assumption))) (by omega) (by first | rfl | assumption) (by first | (exact hc_o (by first | assumption | (exact ⟨by decide, rfl⟩))) | assumption | (exact (hc_far (by omega)).trans (by assumption))) (by omega) (by first | rfl | assumption) (by first | (exact hc_o (by first | assumption | (exact ⟨by decide, rfl⟩))) | assumption | (exact (hc_far (by omega)).trans (by assumption))) (by omega) ?_
          refine cr_hc (d := e + 1) hG hs (fun i2 σ2 hok2 hi2 hnn2 y2 hs gg => ?_) (fun w hw => ?_)
          · simp only [hok2, ms_eb_ok] at hsp
            have hB := hB.go gg (by omega)
            have hr := hr.go gg (Nat.le_refl _)
            rw [← hnn2] at hr
            have hg := hg.trans gg
            have hle2 := hs.2.1.2
            have hge2 := gg.2.2.1.1
            refine b_51_176 _ _ _ _ _ _ (by first | (exact hc_ai (by omega) (by first | assumption | (exact (ht9 (by assumption)).2.1) | (exact (ht9 (by assumption)).2.2.1) | (exact (ht9 (by assumption)).2.2.2) | rfl) (by decide)) | assumption | (exact (hc_far (by omega)).trans (by assumption))) (by omega) (by first | assumption | (exact ix_of (by omega) (by omega)) | (exact ⟨by decide, rfl, by decide⟩)) (by first | (exact (congrFun (hw_AI (by omega) (by first | assumption | (exact (ht9 (by assumption)).2.1) | (exact (ht9 (by assumption)).2.2.1) | (exact (ht9 (by assumption)).2.2.2) | rfl) (by decide)) _).trans (hc_o (by first | assumption | (exact ⟨by decide, rfl⟩)))) | assumption | (exact (hc_far (by omega)).trans (by assumption))) (by omega) ?_
            refine hw_W (hw_AI (by omega) (by first | assumption | (exact (ht9 (by assumption)).2.1) | (exact (ht9 (by assumption)).2.2.1) | (exact (ht9 (by assumption)).2.2.2) | rfl) (by decide)) ?_
            show mi_W _ _ _ _ _ (n, sl, hc (cw 4 σ0.n (Int32.ofNat i2) y2) f0) _
            have hB := hB.w (k := 4) (v := Int32.ofNat i2)
            have hs := hs.w (k := 4) (m := σ0.n) (v := Int32.ofNat i2)
            have hg := hg.w (k := 4) (m := σ0.n) (v := Int32.ofNat i2) (by omega)
            have hr := hr.w (k := 4) (m := σ0.n) (v := Int32.ofNat i2) (Nat.lt_succ_self _)
            generalize cw 4 σ0.n (Int32.ofNat i2) y2 = y2 at *
            have hct := ms_hc_t hb1 hok2
            refine cr_bd (e := e + 1) hG hs hg hB hr (Nat.le_refl _) (by omega) (by omega) (fun σ9 y9 hne9 hbs9 hs hg hB hr hnn9 hqq9 => ?_) (fun w hw => ?_) (fun w hne hw => ?_)
            · simp only [hne9, hbs9, ms_eb_ok, ms_nx_q] at hsp
              have hle9 := hs.2.1.2
              refine b_51_183 _ _ _ ?_
              refine b_51_203 _ _ _ (by first | (exact hc_o (by first | assumption | (exact ⟨by decide, rfl⟩))) | assumption | (exact (hc_far (by omega)).trans (by assumption))) (by omega) (by first | rfl | assumption) (by first | (exact hc_o (by first | assumption | (exact ⟨by decide, rfl⟩))) | assumption | (exact (hc_far (by omega)).trans (by assumption))) (by omega) (by first | rfl | assumption) (by first | (exact hc_o (by first | assumption | (exact ⟨by decide, rfl⟩))) | assumption | (exact (hc_far (by omega)).trans (by assumption))) (by omega) ?_
              rw [hl2]
              refine IHC (e + 9) _ _ _ (by omega) hs (fun y10 σ10 hok10 hs gg hrE e7 hlt10 => ?_) (fun w hw => ?_)
              · simp only [hok10, ms_eb_ok] at hsp
                have hB := hB.go gg (by omega)
                have hr := (hr.go gg (Nat.le_refl _)).join hrE (by omega)
                have hg := hg.trans gg
                have hle10 := hs.2.1.2
                have hge10 := gg.2.2.1.1
                refine b_51_219 _ _ _ _ _ _ (by first | (exact hc_ai (by omega) (by first | assumption | (exact (ht9 (by assumption)).2.1) | (exact (ht9 (by assumption)).2.2.1) | (exact (ht9 (by assumption)).2.2.2) | rfl) (by decide)) | assumption | (exact (hc_far (by omega)).trans (by assumption))) (by omega) (by first | assumption | (exact ix_of (by omega) (by omega)) | (exact ⟨by decide, rfl, by decide⟩)) ?_
                refine hw_Q (hw_AI (by omega) (by first | assumption | (exact (ht9 (by assumption)).2.1) | (exact (ht9 (by assumption)).2.2.1) | (exact (ht9 (by assumption)).2.2.2) | rfl) (by decide)) ?_
                show Q _ (n, sl, hc (cw 2 σ0.n (Int32.ofNat σ9.n) y10) f0)
                have hB := hB.w (k := 2) (v := Int32.ofNat σ9.n)
                have hs := hs.w (k := 2) (m := σ0.n) (v := Int32.ofNat σ9.n)
                have hg := hg.w (k := 2) (m := σ0.n) (v := Int32.ofNat σ9.n) (by omega)
                have hr := hr.w (k := 2) (m := σ0.n) (v := Int32.ofNat σ9.n) (Nat.lt_succ_self _)
                have e7 := (cw_ne (k := 2) (m := σ0.n) (v := Int32.ofNat σ9.n) (a := y10) (k' := 7) (m' := σ9.n) (fun z => by omega)).trans e7
                generalize cw 2 σ0.n (Int32.ofNat σ9.n) y10 = y10 at *
                refine ok y10 (8, i2, 0, 0, 0, 0, 0, 0, σ9.q - σ2.q, σ2.q) σ9 σ10 hsp rfl hs hg ⟨fun k hk9 h7 => ?_, ?_, ?_⟩ hr (by omega)
                · rcases lt9 hk9 with rfl | rfl | rfl | rfl | rfl | rfl | rfl | rfl | rfl <;> first | exact absurd rfl h7 | exact hB.1 _ hk9 | exact (hB.1 6 hk9).trans (congrArg Int32.ofNat (show 2 * σ9.q = 2 * (σ2.q + (σ9.q - σ2.q)) by omega))
                · refine hB.2.trans (hv.trans ?_)
                  rw [hk]
                  rfl
                · exact hB.1 7 (by omega)
              · exact cEr.kc (by decide +kernel) (by omega) ((er w (fun KK => by rw [hsp, hw]; rfl)).go hg.1)
            · exact cEr.kc (by decide +kernel) (by omega) (er w (fun KK => by rw [hsp, hw]; rfl))
            · exact cEr.kc (by decide +kernel) (by omega) (er w (fun KK => by rw [hsp, hne, ms_eb_ok, hw]; rfl))
          · exact cEr.kc (by decide +kernel) (by omega) ((er w (fun KK => by rw [hsp, hw]; rfl)).go hg.1)
      · intro z75
        first | (exact absurd z75 (by decide)) | (exact absurd (by decide) z75) | (exact absurd rfl z75) | (exact absurd z75 (of_nn (by omega))) | (exact absurd (of_np (by omega)) z75) | omega
    · intro z43
      exact absurd (Classical.not_not.mp z43) (of_m1 (by omega))
  · exact cEr.kc (by decide +kernel) (by omega) (er8 h8)
theorem cm_a9f {l2 l4 : Int32} (hG : cG n sl f0) (hl2 : l4 + 1 = Int32.ofNat (101 - j)) (hd : 2 * j + 3 ≤ e) (IHE : cIE n sl f0 g L j) (IHC : cIC n sl f0 g L j) (h : cst a g L σ0) (hk : σ0.t.k = 10) (hmt : mt < σ0.n) (ok : cokA n sl f0 g L Q a σ0 j 9 1 mt) (er : cerA n sl f0 g L Q a σ0 j 9) (er8 : σ0.n = 800 → cEr n sl f0 Q a σ0.t.a) : mi_W (e + 10) 51 39 [some (.ref 15), some (.int (Int32.ofNat mt)), some (.int (-1)), some (.int l4), some (.int 10), none] [] (n, sl, hc a f0) Q := by
  have hn := hG.1
  unfold cokA at ok
  unfold cerA at er
  have hm8 := h.2.1.2
  have hxt := ix_of (w := mt) (m := 800) (by omega) (by omega)
  refine b_51_39 _ _ _ (by first | (exact hc_o (by first | assumption | (exact ⟨by decide, rfl⟩))) | assumption | (exact (hc_far (by omega)).trans (by assumption))) (by omega) ?_
  refine cr_node (d := e + 2) hG h (fun h8 y1 v hs hg1 hv hB => ?_) (fun h8 => ?_)
  · have hsp : ∀ KK : ms_N → ms_S → ms_S → ms_R Nat, ms_A1 g L j 9 σ0 KK = ms_eb (ms_eb (ms_E g L j true (σ0.add.nx g L)) (fun _ σ1 => .ok ((9, 0, 0, 0, 0, (σ0.add.nx g L).n, 0, 0, 0, 0), σ1))) (fun x σ1 => ms_eb (ms_C g L j σ1) (fun _ σ2 => KK x σ1 σ2)) := fun _ => rfl
    rw [hk] at hB
    generalize hσ1 : σ0.add.nx g L = σ1 at *
    have hn1 : σ1.n = σ0.n + 1 := by rw [← hσ1]; rfl
    have hr : crg (σ0.n + 1) σ1.n y1 σ1.tb := by rw [hn1]; exact crg.nil
    have hx := ix_of (w := σ0.n) (m := 800) (by omega) (by omega)
    have hle1 := hs.2.1.2
    refine b_51_43 _ _ _ ?_ ?_
    · intro z43
      first | (exact absurd z43 (by decide)) | (exact absurd (by decide) z43) | (exact absurd rfl z43) | (exact absurd z43 (of_nn (by omega))) | (exact absurd (of_np (by omega)) z43) | omega
    · intro z43
      refine b_51_50 _ _ _ _ _ _ (by first | (exact hc_o (by first | assumption | (exact ⟨by decide, rfl⟩))) | assumption | (exact (hc_far (by omega)).trans (by assumption))) (by omega) (by first | rfl | assumption) (by first | (exact hc_o (by first | assumption | (exact ⟨by decide, rfl⟩))) | assumption | (exact (hc_far (by omega)).trans (by assumption))) (by omega) (by first | rfl | assumption) (by first | (exact hc_ai (by omega) (by first | assumption | (exact (ht9 (by assumption)).2.1) | (exact (ht9 (by assumption)).2.2.1) | (exact (ht9 (by assumption)).2.2.2) | rfl) (by decide)) | assumption | (exact (hc_far (by omega)).trans (by assumption))) (by omega) (by first | assumption | (exact ix_of (by omega) (by omega)) | (exact ⟨by decide, rfl, by decide⟩)) ?_
      refine hw_W (hw_AI (by omega) (by first | assumption | (exact (ht9 (by assumption)).2.1) | (exact (ht9 (by assumption)).2.2.1) | (exact (ht9 (by assumption)).2.2.2) | rfl) (by decide)) ?_
      show mi_W _ _ _ _ _ (n, sl, hc (cw 1 mt (Int32.ofNat σ0.n) y1) f0) _
      have hg := cgo.rb (kt := 1) (mt := mt) (x := Int32.ofNat σ0.n) hg1 hmt
      have hB := hB.wo (kt := 1) (mt := mt) (x := Int32.ofNat σ0.n) (by omega)
      have hs := hs.w (k := 1) (m := mt) (v := Int32.ofNat σ0.n)
      have hr := hr.w (k := 1) (m := mt) (v := Int32.ofNat σ0.n) (by omega)
      have er := fun w hw => (er w hw).go (cF.re.w (k := 1) (m := mt) (v := Int32.ofNat σ0.n))
      generalize cw 1 mt (Int32.ofNat σ0.n) y1 = y1 at *
      refine b_51_75 _ _ _ ?_ ?_
      · intro z75
        refine b_51_156 _ _ _ ?_ ?_
        · intro z156
          refine b_51_186 _ _ _ (by first | (exact hc_o (by first | assumption | (exact ⟨by decide, rfl⟩))) | assumption | (exact (hc_far (by omega)).trans (by assumption))) (by omega) (by first | rfl | assumption) (by first | (exact hc_o (by first | assumption | (exact ⟨by decide, rfl⟩))) | assumption | (exact (hc_far (by omega)).trans (by assumption))) (by omega) (by first | rfl | assumption) (by first | (exact hc_o (by first | assumption | (exact ⟨by decide, rfl⟩))) | assumption | (exact (hc_far (by omega)).trans (by assumption))) (by omega) ?_
          rw [hl2]
          refine IHE.2 (e + 9) _ _ _ (by omega) hs (fun y2 σ2 hok2 hs gg hrE e7 hlt2 => ?_) (fun w hw => ?_)
          · simp only [hok2, ms_eb_ok] at hsp
            have hB := hB.go gg (by omega)
            have hr := (hr.go gg (Nat.le_refl _)).join hrE (by omega)
            have hg := hg.trans gg
            have hle2 := hs.2.1.2
            have hge2 := gg.2.2.1.1
            refine b_51_202 _ _ _ _ _ _ (by first | (exact hc_ai (by omega) (by first | assumption | (exact (ht9 (by assumption)).2.1) | (exact (ht9 (by assumption)).2.2.1) | (exact (ht9 (by assumption)).2.2.2) | rfl) (by decide)) | assumption | (exact (hc_far (by omega)).trans (by assumption))) (by omega) (by first | assumption | (exact ix_of (by omega) (by omega)) | (exact ⟨by decide, rfl, by decide⟩)) ?_
            refine hw_W (hw_AI (by omega) (by first | assumption | (exact (ht9 (by assumption)).2.1) | (exact (ht9 (by assumption)).2.2.1) | (exact (ht9 (by assumption)).2.2.2) | rfl) (by decide)) ?_
            show mi_W _ _ _ _ _ (n, sl, hc (cw 1 σ0.n (Int32.ofNat σ1.n) y2) f0) _
            have hB := hB.w (k := 1) (v := Int32.ofNat σ1.n)
            have hs := hs.w (k := 1) (m := σ0.n) (v := Int32.ofNat σ1.n)
            have hg := hg.w (k := 1) (m := σ0.n) (v := Int32.ofNat σ1.n) (by omega)
            have hr := hr.w (k := 1) (m := σ0.n) (v := Int32.ofNat σ1.n) (Nat.lt_succ_self _)
            have e7 := (cw_ne (k := 1) (m := σ0.n) (v := Int32.ofNat σ1.n) (a := y2) (k' := 7) (m' := σ1.n) (fun z => by omega)).trans e7
            generalize cw 1 σ0.n (Int32.ofNat σ1.n) y2 = y2 at *
            refine b_51_203 _ _ _ (by first | (exact hc_o (by first | assumption | (exact ⟨by decide, rfl⟩))) | assumption | (exact (hc_far (by omega)).trans (by assumption))) (by omega) (by first | rfl | assumption) (by first | (exact hc_o (by first | assumption | (exact ⟨by decide, rfl⟩))) | assumption | (exact (hc_far (by omega)).trans (by assumption))) (by omega) (by first | rfl | assumption) (by first | (exact hc_o (by first | assumption | (exact ⟨by decide, rfl⟩))) | assumption | (exact (hc_far (by omega)).trans (by assumption))) (by omega) ?_
            rw [hl2]
            refine IHC (e + 9) _ _ _ (by omega) hs (fun y3 σ3 hok3 hs gg hrE e7 hlt3 => ?_) (fun w hw => ?_)
            · simp only [hok3, ms_eb_ok] at hsp
              have hB := hB.go gg (by omega)
              have hr := (hr.go gg (Nat.le_refl _)).join hrE (by omega)
              have hg := hg.trans gg
              have hle3 := hs.2.1.2
              have hge3 := gg.2.2.1.1
              refine b_51_219 _ _ _ _ _ _ (by first | (exact hc_ai (by omega) (by first | assumption | (exact (ht9 (by assumption)).2.1) | (exact (ht9 (by assumption)).2.2.1) | (exact (ht9 (by assumption)).2.2.2) | rfl) (by decide)) | assumption | (exact (hc_far (by omega)).trans (by assumption))) (by omega) (by first | assumption | (exact ix_of (by omega) (by omega)) | (exact ⟨by decide, rfl, by decide⟩)) ?_
              refine hw_Q (hw_AI (by omega) (by first | assumption | (exact (ht9 (by assumption)).2.1) | (exact (ht9 (by assumption)).2.2.1) | (exact (ht9 (by assumption)).2.2.2) | rfl) (by decide)) ?_
              show Q _ (n, sl, hc (cw 2 σ0.n (Int32.ofNat σ2.n) y3) f0)
              have hB := hB.w (k := 2) (v := Int32.ofNat σ2.n)
              have hs := hs.w (k := 2) (m := σ0.n) (v := Int32.ofNat σ2.n)
              have hg := hg.w (k := 2) (m := σ0.n) (v := Int32.ofNat σ2.n) (by omega)
              have hr := hr.w (k := 2) (m := σ0.n) (v := Int32.ofNat σ2.n) (Nat.lt_succ_self _)
              have e7 := (cw_ne (k := 2) (m := σ0.n) (v := Int32.ofNat σ2.n) (a := y3) (k' := 7) (m' := σ2.n) (fun z => by omega)).trans e7
              generalize cw 2 σ0.n (Int32.ofNat σ2.n) y3 = y3 at *
              refine ok y3 (9, 0, 0, 0, 0, σ1.n, 0, 0, 0, 0) σ2 σ3 hsp rfl hs hg ⟨fun k hk9 h7 => ?_, ?_, ?_⟩ hr (by omega)
              · rcases lt9 hk9 with rfl | rfl | rfl | rfl | rfl | rfl | rfl | rfl | rfl <;> first | exact absurd rfl h7 | exact hB.1 _ hk9
              · refine hB.2.trans (hv.trans ?_)
                rw [hk]
                rfl
              · exact hB.1 7 (by omega)
            · exact cEr.kc (by decide +kernel) (by omega) ((er w (fun KK => by rw [hsp, hw]; rfl)).go hg.1)
          · exact cEr.kc (by decide +kernel) (by omega) ((er w (fun KK => by rw [hsp, hw]; rfl)).go hg.1)
        · intro z156
          first | (exact absurd z156 (by decide)) | (exact absurd (by decide) z156) | (exact absurd rfl z156) | (exact absurd z156 (of_nn (by omega))) | (exact absurd (of_np (by omega)) z156) | omega
      · intro z75
        first | (exact absurd z75 (by decide)) | (exact absurd (by decide) z75) | (exact absurd rfl z75) | (exact absurd z75 (of_nn (by omega))) | (exact absurd (of_np (by omega)) z75) | omega
  · exact cEr.kc (by decide +kernel) (by omega) (er8 h8)
theorem cm_a9n {l2 l4 : Int32} (hG : cG n sl f0) (hl2 : l4 + 1 = Int32.ofNat (101 - j)) (hd : 2 * j + 3 ≤ e) (IHE : cIE n sl f0 g L j) (IHC : cIC n sl f0 g L j) (h : cst a g L σ0) (hk : σ0.t.k = 10) (hmt : mt < σ0.n) (ok : cokA n sl f0 g L Q a σ0 j 9 3 mt) (er : cerA n sl f0 g L Q a σ0 j 9) (er8 : σ0.n = 800 → cEr n sl f0 Q a σ0.t.a) : mi_W (e + 10) 51 39 [some (.ref 15), some (.int l2), some (.int (Int32.ofNat mt)), some (.int l4), some (.int 10), none] [] (n, sl, hc a f0) Q := by
  have hn := hG.1
  unfold cokA at ok
  unfold cerA at er
  have hm8 := h.2.1.2
  have hxt := ix_of (w := mt) (m := 800) (by omega) (by omega)
  refine b_51_39 _ _ _ (by first | (exact hc_o (by first | assumption | (exact ⟨by decide, rfl⟩))) | assumption | (exact (hc_far (by omega)).trans (by assumption))) (by omega) ?_
  refine cr_node (d := e + 2) hG h (fun h8 y1 v hs hg1 hv hB => ?_) (fun h8 => ?_)
  · have hsp : ∀ KK : ms_N → ms_S → ms_S → ms_R Nat, ms_A1 g L j 9 σ0 KK = ms_eb (ms_eb (ms_E g L j true (σ0.add.nx g L)) (fun _ σ1 => .ok ((9, 0, 0, 0, 0, (σ0.add.nx g L).n, 0, 0, 0, 0), σ1))) (fun x σ1 => ms_eb (ms_C g L j σ1) (fun _ σ2 => KK x σ1 σ2)) := fun _ => rfl
    rw [hk] at hB
    generalize hσ1 : σ0.add.nx g L = σ1 at *
    have hn1 : σ1.n = σ0.n + 1 := by rw [← hσ1]; rfl
    have hr : crg (σ0.n + 1) σ1.n y1 σ1.tb := by rw [hn1]; exact crg.nil
    have hx := ix_of (w := σ0.n) (m := 800) (by omega) (by omega)
    have hle1 := hs.2.1.2
    refine b_51_43 _ _ _ ?_ ?_
    · intro z43
      refine b_51_64 _ _ _ _ _ _ (by first | (exact hc_o (by first | assumption | (exact ⟨by decide, rfl⟩))) | assumption | (exact (hc_far (by omega)).trans (by assumption))) (by omega) (by first | rfl | assumption) (by first | (exact hc_o (by first | assumption | (exact ⟨by decide, rfl⟩))) | assumption | (exact (hc_far (by omega)).trans (by assumption))) (by omega) (by first | rfl | assumption) (by first | (exact hc_ai (by omega) (by first | assumption | (exact (ht9 (by assumption)).2.1) | (exact (ht9 (by assumption)).2.2.1) | (exact (ht9 (by assumption)).2.2.2) | rfl) (by decide)) | assumption | (exact (hc_far (by omega)).trans (by assumption))) (by omega) (by first | assumption | (exact ix_of (by omega) (by omega)) | (exact ⟨by decide, rfl, by decide⟩)) ?_
      refine hw_W (hw_AI (by omega) (by first | assumption | (exact (ht9 (by assumption)).2.1) | (exact (ht9 (by assumption)).2.2.1) | (exact (ht9 (by assumption)).2.2.2) | rfl) (by decide)) ?_
      show mi_W _ _ _ _ _ (n, sl, hc (cw 3 mt (Int32.ofNat σ0.n) y1) f0) _
      have hg := cgo.rb (kt := 3) (mt := mt) (x := Int32.ofNat σ0.n) hg1 hmt
      have hB := hB.wo (kt := 3) (mt := mt) (x := Int32.ofNat σ0.n) (by omega)
      have hs := hs.w (k := 3) (m := mt) (v := Int32.ofNat σ0.n)
      have hr := hr.w (k := 3) (m := mt) (v := Int32.ofNat σ0.n) (by omega)
      have er := fun w hw => (er w hw).go (cF.re.w (k := 3) (m := mt) (v := Int32.ofNat σ0.n))
      generalize cw 3 mt (Int32.ofNat σ0.n) y1 = y1 at *
      refine b_51_75 _ _ _ ?_ ?_
      · intro z75
        refine b_51_156 _ _ _ ?_ ?_
        · intro z156
          refine b_51_186 _ _ _ (by first | (exact hc_o (by first | assumption | (exact ⟨by decide, rfl⟩))) | assumption | (exact (hc_far (by omega)).trans (by assumption))) (by omega) (by first | rfl | assumption) (by first | (exact hc_o (by first | assumption | (exact ⟨by decide, rfl⟩))) | assumption | (exact (hc_far (by omega)).trans (by assumption))) (by omega) (by first | rfl | assumption) (by first | (exact hc_o (by first | assumption | (exact ⟨by decide, rfl⟩))) | assumption | (exact (hc_far (by omega)).trans (by assumption))) (by omega) ?_
          rw [hl2]
          refine IHE.2 (e + 9) _ _ _ (by omega) hs (fun y2 σ2 hok2 hs gg hrE e7 hlt2 => ?_) (fun w hw => ?_)
          · simp only [hok2, ms_eb_ok] at hsp
            have hB := hB.go gg (by omega)
            have hr := (hr.go gg (Nat.le_refl _)).join hrE (by omega)
            have hg := hg.trans gg
            have hle2 := hs.2.1.2
            have hge2 := gg.2.2.1.1
            refine b_51_202 _ _ _ _ _ _ (by first | (exact hc_ai (by omega) (by first | assumption | (exact (ht9 (by assumption)).2.1) | (exact (ht9 (by assumption)).2.2.1) | (exact (ht9 (by assumption)).2.2.2) | rfl) (by decide)) | assumption | (exact (hc_far (by omega)).trans (by assumption))) (by omega) (by first | assumption | (exact ix_of (by omega) (by omega)) | (exact ⟨by decide, rfl, by decide⟩)) ?_
            refine hw_W (hw_AI (by omega) (by first | assumption | (exact (ht9 (by assumption)).2.1) | (exact (ht9 (by assumption)).2.2.1) | (exact (ht9 (by assumption)).2.2.2) | rfl) (by decide)) ?_
            show mi_W _ _ _ _ _ (n, sl, hc (cw 1 σ0.n (Int32.ofNat σ1.n) y2) f0) _
            have hB := hB.w (k := 1) (v := Int32.ofNat σ1.n)
            have hs := hs.w (k := 1) (m := σ0.n) (v := Int32.ofNat σ1.n)
            have hg := hg.w (k := 1) (m := σ0.n) (v := Int32.ofNat σ1.n) (by omega)
            have hr := hr.w (k := 1) (m := σ0.n) (v := Int32.ofNat σ1.n) (Nat.lt_succ_self _)
            have e7 := (cw_ne (k := 1) (m := σ0.n) (v := Int32.ofNat σ1.n) (a := y2) (k' := 7) (m' := σ1.n) (fun z => by omega)).trans e7
            generalize cw 1 σ0.n (Int32.ofNat σ1.n) y2 = y2 at *
            refine b_51_203 _ _ _ (by first | (exact hc_o (by first | assumption | (exact ⟨by decide, rfl⟩))) | assumption | (exact (hc_far (by omega)).trans (by assumption))) (by omega) (by first | rfl | assumption) (by first | (exact hc_o (by first | assumption | (exact ⟨by decide, rfl⟩))) | assumption | (exact (hc_far (by omega)).trans (by assumption))) (by omega) (by first | rfl | assumption) (by first | (exact hc_o (by first | assumption | (exact ⟨by decide, rfl⟩))) | assumption | (exact (hc_far (by omega)).trans (by assumption))) (by omega) ?_
            rw [hl2]
            refine IHC (e + 9) _ _ _ (by omega) hs (fun y3 σ3 hok3 hs gg hrE e7 hlt3 => ?_) (fun w hw => ?_)
            · simp only [hok3, ms_eb_ok] at hsp
              have hB := hB.go gg (by omega)
              have hr := (hr.go gg (Nat.le_refl _)).join hrE (by omega)
              have hg := hg.trans gg
              have hle3 := hs.2.1.2
              have hge3 := gg.2.2.1.1
              refine b_51_219 _ _ _ _ _ _ (by first | (exact hc_ai (by omega) (by first | assumption | (exact (ht9 (by assumption)).2.1) | (exact (ht9 (by assumption)).2.2.1) | (exact (ht9 (by assumption)).2.2.2) | rfl) (by decide)) | assumption | (exact (hc_far (by omega)).trans (by assumption))) (by omega) (by first | assumption | (exact ix_of (by omega) (by omega)) | (exact ⟨by decide, rfl, by decide⟩)) ?_
              refine hw_Q (hw_AI (by omega) (by first | assumption | (exact (ht9 (by assumption)).2.1) | (exact (ht9 (by assumption)).2.2.1) | (exact (ht9 (by assumption)).2.2.2) | rfl) (by decide)) ?_
              show Q _ (n, sl, hc (cw 2 σ0.n (Int32.ofNat σ2.n) y3) f0)
              have hB := hB.w (k := 2) (v := Int32.ofNat σ2.n)
              have hs := hs.w (k := 2) (m := σ0.n) (v := Int32.ofNat σ2.n)
              have hg := hg.w (k := 2) (m := σ0.n) (v := Int32.ofNat σ2.n) (by omega)
              have hr := hr.w (k := 2) (m := σ0.n) (v := Int32.ofNat σ2.n) (Nat.lt_succ_self _)
              have e7 := (cw_ne (k := 2) (m := σ0.n) (v := Int32.ofNat σ2.n) (a := y3) (k' := 7) (m' := σ2.n) (fun z => by omega)).trans e7
              generalize cw 2 σ0.n (Int32.ofNat σ2.n) y3 = y3 at *
              refine ok y3 (9, 0, 0, 0, 0, σ1.n, 0, 0, 0, 0) σ2 σ3 hsp rfl hs hg ⟨fun k hk9 h7 => ?_, ?_, ?_⟩ hr (by omega)
              · rcases lt9 hk9 with rfl | rfl | rfl | rfl | rfl | rfl | rfl | rfl | rfl <;> first | exact absurd rfl h7 | exact hB.1 _ hk9
              · refine hB.2.trans (hv.trans ?_)
                rw [hk]
                rfl
              · exact hB.1 7 (by omega)
            · exact cEr.kc (by decide +kernel) (by omega) ((er w (fun KK => by rw [hsp, hw]; rfl)).go hg.1)
          · exact cEr.kc (by decide +kernel) (by omega) ((er w (fun KK => by rw [hsp, hw]; rfl)).go hg.1)
        · intro z156
          first | (exact absurd z156 (by decide)) | (exact absurd (by decide) z156) | (exact absurd rfl z156) | (exact absurd z156 (of_nn (by omega))) | (exact absurd (of_np (by omega)) z156) | omega
      · intro z75
        first | (exact absurd z75 (by decide)) | (exact absurd (by decide) z75) | (exact absurd rfl z75) | (exact absurd z75 (of_nn (by omega))) | (exact absurd (of_np (by omega)) z75) | omega
    · intro z43
      exact absurd (Classical.not_not.mp z43) (of_m1 (by omega))
  · exact cEr.kc (by decide +kernel) (by omega) (er8 h8)
end
