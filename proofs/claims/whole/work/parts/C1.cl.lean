/-! the first object's reading: bounds of a node, names of a payment -/
def ms_PN (g : Nat → Int32) (L : Nat) (σ : ms_S) (K : Nat → Nat → Nat → Nat → ms_S → ms_R Unit) : ms_R Unit := ms_eb (ms_pa g L σ) (fun a σ => ms_eb (ms_ti g L σ) (fun o σ => ms_eb (ms_pa g L σ) (fun b σ => ms_eb (ms_to g L σ) (fun t σ => K a o b t σ))))
section
variable {d e n sl m : Nat} {a a0 : mh_A} {σ σ0 : ms_S} {f0 : Nat → mi_C} {Q : (Option Value ⊕ Nat) → mi_H → Prop} {g : Nat → Int32} {L : Nat} {v : Int64} {R : Nat → Int32}
theorem cB.eq {a1 : mh_A} (h : cB a m R v) (hI : a1.AI = a.AI) (hJ : a1.AL 2 3 9 = a.AL 2 3 9) : cB a1 m R v := ⟨fun k hk => by rw [hI]; exact h.1 k hk, by rw [hJ]; exact h.2⟩
theorem crg.eq {a1 : mh_A} {lo hi : Nat} {tb : Nat → ms_N} (h : crg lo hi a tb) (hI : a1.AI = a.AI) (hJ : a1.AL 2 3 9 = a.AL 2 3 9) : crg lo hi a1 tb := h.to (fun m _ _ => ⟨fun k _ => by rw [hI], by rw [hJ]⟩) (fun _ _ _ => rfl)
theorem cr_bd (hG : cG n sl f0) (h : cst a g L σ) (hg : cgo a0 σ0 a σ) (hB : cB a m R v) (hr : crg (m + 1) σ.n a σ.tb) (h0 : σ0.n ≤ m) (hm : m < σ.n) (hq : 4 * σ.q ≤ σ.t.a) (ok : ∀ σ2 a', ms_need g L (ms_kc 51) σ = .ok ((), σ.nx g L) → ms_bs g L L (σ.nx g L) = .ok ((), σ2) → cst a' g L σ2 → cgo a0 σ0 a' σ2 → cB a' m (va_up (va_up R 5 (Int32.ofNat (2 * σ.q))) 6 (Int32.ofNat (2 * σ2.q))) v → crg (m + 1) σ2.n a' σ2.tb → σ2.n = σ.n → σ.q ≤ σ2.q → Q (.inl none) (n, sl, hc a' f0)) (er1 : ∀ w, ms_need g L (ms_kc 51) σ = .error w → cEr n sl f0 Q a0 w) (er2 : ∀ w, ms_need g L (ms_kc 51) σ = .ok ((), σ.nx g L) → ms_bs g L L (σ.nx g L) = .error w → cEr n sl f0 Q a0 w) : mi_W (e + 8) 52 0 (mi_en 5 [.ref 15, .int (Int32.ofNat m)]) [] (n, sl, hc a f0) Q := by
  have hn := hG.1
  have hm8 := h.2.1.2
  have hx := ix_of (w := m) (m := 800) (by omega) (by omega)
  have hle := h.1.le
  have hk := h.1.2.2.2.2.2.2.2
  refine b_52_0 _ _ _ (by first | (exact hc_o (by first | assumption | (exact ⟨by decide, rfl⟩))) | assumption | (exact (hc_far (by omega)).trans (by assumption))) (by omega) ?_
  refine cr_take (k := 26) (d := e) hG (by omega) h (fun hne a1 h1 g1 hI1 hJ1 => ?_) (fun w hw => ?_)
  · have h12 := h1.2.2.1.1
    rw [ms_nx_q] at h12
    refine b_52_6 _ _ _ _ _ _ (by first | (exact hc_o (by first | assumption | (exact ⟨by decide, rfl⟩))) | assumption | (exact (hc_far (by omega)).trans (by assumption))) (by omega) (by first | rfl | assumption) (by first | (exact hc_o (by first | assumption | (exact ⟨by decide, rfl⟩))) | assumption | (exact (hc_far (by omega)).trans (by assumption))) (by omega) (by first | rfl | assumption) (by first | (exact hc_o (by first | assumption | (exact ⟨by decide, rfl⟩))) | assumption | (exact (hc_far (by omega)).trans (by assumption))) (by omega) (by first | rfl | assumption) (by first | (exact hc_o (by first | assumption | (exact ⟨by decide, rfl⟩))) | assumption | (exact (hc_far (by omega)).trans (by assumption))) (by omega) (by first | rfl | assumption) (by first | (exact hc_ai (by omega) (by first | assumption | (exact (ht9 (by assumption)).2.1) | (exact (ht9 (by assumption)).2.2.1) | (exact (ht9 (by assumption)).2.2.2) | rfl) (by decide)) | assumption | (exact (hc_far (by omega)).trans (by assumption))) (by omega) (by first | assumption | (exact ix_of (by omega) (by omega)) | (exact ⟨by decide, rfl, by decide⟩)) ?_
    refine hw_W (hw_AI (by omega) (by first | assumption | (exact (ht9 (by assumption)).2.1) | (exact (ht9 (by assumption)).2.2.1) | (exact (ht9 (by assumption)).2.2.2) | rfl) (by decide)) ?_
    rw [h12]
    show mi_W _ _ _ _ _ (n, sl, hc (cw 5 m (Int32.ofNat (2 * σ.q)) a1) f0) _
    refine b_52_24 _ _ _ ?_ ?_
    · intro z24
      first | (exact absurd z24 (by decide)) | (exact absurd (by decide) z24) | (exact absurd rfl z24) | (exact absurd z24 (of_nn (by omega))) | (exact absurd (of_np (by omega)) z24) | omega
    · intro z24
      refine b_52_31 _ _ _ ?_ ?_
      · intro z31
        have hv : ck_v (σ.nx g L).q (σ.nx g L).t := by
          have hl := ms_nx_le (g := g) (L := L) (p := σ.t.b) hle.2.1
          have h26 : σ.t.k = 26 := by
            unfold ms_need at hne
            split at hne
            · rename_i h
              exact h
            · cases hne
          obtain ⟨k, hk, et⟩ := hk
          have ht := ms_tk_le (g := g) hk
          rw [← et] at ht
          have e1 : (σ.nx g L).q = σ.q := rfl
          have e2 : (σ.nx g L).t = ms_nx g L σ.t.b := rfl
          rw [e1, e2]
          refine ⟨by omega, fun h37 => ?_⟩
          have := hl.2.2.2.resolve_left (by omega)
          rcases ht.2.2.2 with h' | h' <;> omega
        have hn1 : (σ.nx g L).n = σ.n := rfl
        have hB1 : cB a1 m R v := hB.go g1 hm
        have hr1 : crg (m + 1) σ.n a1 (σ.nx g L).tb := hr.go g1 (Nat.le_refl _)
        refine ck_bs (σ := σ.nx g L) (a := cw 5 m (Int32.ofNat (2 * σ.q)) a1) (f := L) (a0 := a0) (σ0 := σ0) hG (fun a' σ' l3 o4 o5 hok h' hg' hn' hq' hI' hJ' htb' => ?_) (fun w hw => er2 w hne hw) L (cw 5 m (Int32.ofNat (2 * σ.q)) a1) (σ.nx g L) 0 _ _ rfl (Nat.sub_le _ _) hv (Nat.zero_le _) h1.w ((hg.trans g1).w h0) rfl (Nat.le_refl _) rfl rfl rfl
        have hB2 := (hB1.w (k := 5) (v := Int32.ofNat (2 * σ.q))).eq hI' hJ'
        have hr2 := (hr1.w (k := 5) (m := m) (v := Int32.ofNat (2 * σ.q)) (Nat.lt_succ_self _)).eq hI' hJ'
        have h12' := h'.2.2.1.1
        rw [ms_nx_tb] at htb'
        rw [ms_nx_n] at hn'
        rw [ms_nx_q] at hq'
        rw [ms_nx_tb, ← htb', ← hn'] at hr2
        refine b_52_123 _ _ _ _ _ _ (by first | (exact hc_o (by first | assumption | (exact ⟨by decide, rfl⟩))) | assumption | (exact (hc_far (by omega)).trans (by assumption))) (by omega) (by first | rfl | assumption) (by first | (exact hc_o (by first | assumption | (exact ⟨by decide, rfl⟩))) | assumption | (exact (hc_far (by omega)).trans (by assumption))) (by omega) (by first | rfl | assumption) (by first | (exact hc_o (by first | assumption | (exact ⟨by decide, rfl⟩))) | assumption | (exact (hc_far (by omega)).trans (by assumption))) (by omega) (by first | rfl | assumption) (by first | (exact hc_o (by first | assumption | (exact ⟨by decide, rfl⟩))) | assumption | (exact (hc_far (by omega)).trans (by assumption))) (by omega) (by first | rfl | assumption) (by first | (exact hc_ai (by omega) (by first | assumption | (exact (ht9 (by assumption)).2.1) | (exact (ht9 (by assumption)).2.2.1) | (exact (ht9 (by assumption)).2.2.2) | rfl) (by decide)) | assumption | (exact (hc_far (by omega)).trans (by assumption))) (by omega) (by first | assumption | (exact ix_of (by omega) (by omega)) | (exact ⟨by decide, rfl, by decide⟩)) ?_
        refine hw_Q (hw_AI (by omega) (by first | assumption | (exact (ht9 (by assumption)).2.1) | (exact (ht9 (by assumption)).2.2.1) | (exact (ht9 (by assumption)).2.2.2) | rfl) (by decide)) ?_
        rw [h12']
        show Q _ (n, sl, hc (cw 6 m (Int32.ofNat (2 * σ'.q)) a') f0)
        exact ok σ' _ hne hok h'.w (hg'.w h0) hB2.w (hr2.w (Nat.lt_succ_self _)) hn' hq'
      · intro z31
        first | (exact absurd z31 (by decide)) | (exact absurd (by decide) z31) | (exact absurd rfl z31) | (exact absurd z31 (of_nn (by omega))) | (exact absurd (of_np (by omega)) z31) | omega
  · exact cEr.kc (by decide +kernel) (by omega) ((er1 w hw).go hg.1)
theorem ms_ti_nx {o : Nat} {σ' : ms_S} (h : ms_ti g L σ = .ok (o, σ')) : σ' = σ.nx g L ∧ (o = 1 ∧ σ.t.k = 2 ∨ o = 2 ∧ σ.t.k = 3) := by
  unfold ms_ti at h
  split at h
  · rename_i hk
    cases h
    exact ⟨rfl, Or.inl ⟨rfl, hk⟩⟩
  · split at h
    · rename_i hk
      cases h
      exact ⟨rfl, Or.inr ⟨rfl, hk⟩⟩
    · cases h
theorem cr_pn (hG : cG n sl f0) (hs : cst a g L σ) (hg : cgo a0 σ0 a σ) (hB : cB a m R v) (hr : crg (m + 1) σ.n a σ.tb) (h0 : σ0.n ≤ m) (hm : m < σ.n) (ok : ∀ i o b t σ' a', (∀ K, ms_PN g L σ K = K i o b t σ') → (o = 1 ∨ o = 2) → cst a' g L σ' → cgo a0 σ0 a' σ' → cB a' m (va_up (va_up (va_up (va_up R 4 (Int32.ofNat i)) 8 (if o = 2 then 1 else 0)) 5 (Int32.ofNat b)) 6 (Int32.ofNat t)) v → crg (m + 1) σ'.n a' σ'.tb → σ'.n = σ.n → Q (.inl none) (n, sl, hc a' f0)) (er : ∀ w, (∀ K, ms_PN g L σ K = .error w) → cEr n sl f0 Q a0 w) : mi_W (e + 9) 42 0 (mi_en 2 [.ref 15, .int (Int32.ofNat m)]) [] (n, sl, hc a f0) Q := by
  have hn := hG.1
  have hm8 := hs.2.1.2
  have hx := ix_of (w := m) (m := 800) (by omega) (by omega)
  have hsp : ∀ K, ms_PN g L σ K = ms_eb (ms_pa g L σ) (fun a σ => ms_eb (ms_ti g L σ) (fun o σ => ms_eb (ms_pa g L σ) (fun b σ => ms_eb (ms_to g L σ) (fun t σ => K a o b t σ)))) := fun _ => rfl
  refine b_42_0 _ _ _ (by first | (exact hc_o (by first | assumption | (exact ⟨by decide, rfl⟩))) | assumption | (exact (hc_far (by omega)).trans (by assumption))) (by omega) (by first | rfl | assumption) (by first | (exact hc_o (by first | assumption | (exact ⟨by decide, rfl⟩))) | assumption | (exact (hc_far (by omega)).trans (by assumption))) (by omega) (by first | rfl | assumption) (by first | (exact hc_o (by first | assumption | (exact ⟨by decide, rfl⟩))) | assumption | (exact (hc_far (by omega)).trans (by assumption))) (by omega) (by first | rfl | assumption) (by first | (exact hc_o (by first | assumption | (exact ⟨by decide, rfl⟩))) | assumption | (exact (hc_far (by omega)).trans (by assumption))) (by omega) ?_
  refine cr_pa (d := e + 1) hG hs (fun i2 σ2 hok2 hi2 hnn2 hxx y2 hs gg => ?_) (fun w hw => ?_)
  · simp only [hok2, ms_eb_ok] at hsp
    have hB := hB.go gg (by omega)
    have hr := hr.go gg (Nat.le_refl _)
    rw [← hnn2] at hr
    have hg := hg.trans gg
    have t2 := hs.1.2.2.2.1
    have t5 := hs.1.2.2.2.2.1
    have t40 := hs.1.k40
    have hcs : σ2.t.k = 2 ∨ σ2.t.k = 3 ∨ (¬ σ2.t.k = 2 ∧ ¬ σ2.t.k = 3) := by omega
    rcases hcs with hk | hk | hk
    · have hti : ms_ti g L σ2 = .ok (1, σ2.nx g L) := by unfold ms_ti; rw [if_pos (show σ2.t.k = ms_kc 18 from hk)]
      simp only [hti, ms_eb_ok] at hsp
      refine b_42_16 _ _ _ _ _ _ (by first | (exact hc_ai (by omega) (by first | assumption | (exact (ht9 (by assumption)).2.1) | (exact (ht9 (by assumption)).2.2.1) | (exact (ht9 (by assumption)).2.2.2) | rfl) (by decide)) | assumption | (exact (hc_far (by omega)).trans (by assumption))) (by omega) (by first | assumption | (exact ix_of (by omega) (by omega)) | (exact ⟨by decide, rfl, by decide⟩)) (by first | (exact (congrFun (hw_AI (by omega) (by first | assumption | (exact (ht9 (by assumption)).2.1) | (exact (ht9 (by assumption)).2.2.1) | (exact (ht9 (by assumption)).2.2.2) | rfl) (by decide)) _).trans (hc_o (by first | assumption | (exact ⟨by decide, rfl⟩)))) | assumption | (exact (hc_far (by omega)).trans (by assumption))) (by omega) (by first | rfl | assumption) (by first | (exact (congrFun (hw_AI (by omega) (by first | assumption | (exact (ht9 (by assumption)).2.1) | (exact (ht9 (by assumption)).2.2.1) | (exact (ht9 (by assumption)).2.2.2) | rfl) (by decide)) _).trans (hc_o (by first | assumption | (exact ⟨by decide, rfl⟩)))) | assumption | (exact (hc_far (by omega)).trans (by assumption))) (by omega) (by first | rfl | assumption) ?_ ?_
      · intro z16
        refine hw_W (hw_AI (by omega) (by first | assumption | (exact (ht9 (by assumption)).2.1) | (exact (ht9 (by assumption)).2.2.1) | (exact (ht9 (by assumption)).2.2.2) | rfl) (by decide)) ?_
        show mi_W _ _ _ _ _ (n, sl, hc (cw 4 m (Int32.ofNat i2) y2) f0) _
        have hB := hB.w (k := 4) (v := Int32.ofNat i2)
        have hs := hs.w (k := 4) (m := m) (v := Int32.ofNat i2)
        have hg := hg.w (k := 4) (m := m) (v := Int32.ofNat i2) (by omega)
        have hr := hr.w (k := 4) (m := m) (v := Int32.ofNat i2) (Nat.lt_succ_self _)
        have t2 : (cw 4 m (Int32.ofNat i2) y2).I 1 1 2 = Int32.ofNat σ2.t.k := t2
        generalize cw 4 m (Int32.ofNat i2) y2 = y2 at *
        refine b_42_40 _ _ _ ?_
        refine b_42_45 _ _ _ (by first | (exact hc_o (by first | assumption | (exact ⟨by decide, rfl⟩))) | assumption | (exact (hc_far (by omega)).trans (by assumption))) (by omega) ?_
        refine cr_re1 hn hG.2.1 ?_
        refine b_42_48 _ _ _ (by first | (exact hc_o (by first | assumption | (exact ⟨by decide, rfl⟩))) | assumption | (exact (hc_far (by omega)).trans (by assumption))) (by omega) (by first | rfl | assumption) (by first | (exact hc_o (by first | assumption | (exact ⟨by decide, rfl⟩))) | assumption | (exact (hc_far (by omega)).trans (by assumption))) (by omega) (by first | rfl | assumption) (by first | (exact hc_o (by first | assumption | (exact ⟨by decide, rfl⟩))) | assumption | (exact (hc_far (by omega)).trans (by assumption))) (by omega) (by first | rfl | assumption) (by first | (exact hc_o (by first | assumption | (exact ⟨by decide, rfl⟩))) | assumption | (exact (hc_far (by omega)).trans (by assumption))) (by omega) (by first | rfl | assumption) ?_ ?_
        · intro z48
          refine b_42_71 _ _ _ ?_
          refine b_42_72 _ _ _ _ _ _ (by first | (exact hc_ai (by omega) (by first | assumption | (exact (ht9 (by assumption)).2.1) | (exact (ht9 (by assumption)).2.2.1) | (exact (ht9 (by assumption)).2.2.2) | rfl) (by decide)) | assumption | (exact (hc_far (by omega)).trans (by assumption))) (by omega) (by first | assumption | (exact ix_of (by omega) (by omega)) | (exact ⟨by decide, rfl, by decide⟩)) (by first | (exact (congrFun (hw_AI (by omega) (by first | assumption | (exact (ht9 (by assumption)).2.1) | (exact (ht9 (by assumption)).2.2.1) | (exact (ht9 (by assumption)).2.2.2) | rfl) (by decide)) _).trans (hc_o (by first | assumption | (exact ⟨by decide, rfl⟩)))) | assumption | (exact (hc_far (by omega)).trans (by assumption))) (by omega) (by first | rfl | assumption) (by first | (exact (congrFun (hw_AI (by omega) (by first | assumption | (exact (ht9 (by assumption)).2.1) | (exact (ht9 (by assumption)).2.2.1) | (exact (ht9 (by assumption)).2.2.2) | rfl) (by decide)) _).trans (hc_o (by first | assumption | (exact ⟨by decide, rfl⟩)))) | assumption | (exact (hc_far (by omega)).trans (by assumption))) (by omega) ?_
          refine hw_W (hw_AI (by omega) (by first | assumption | (exact (ht9 (by assumption)).2.1) | (exact (ht9 (by assumption)).2.2.1) | (exact (ht9 (by assumption)).2.2.2) | rfl) (by decide)) ?_
          show mi_W _ _ _ _ _ (n, sl, hc (cw 8 m 0 y2) f0) _
          have hB := hB.w (k := 8) (v := 0)
          have hs := hs.w (k := 8) (m := m) (v := 0)
          have hg := hg.w (k := 8) (m := m) (v := 0) (by omega)
          have hr := hr.w (k := 8) (m := m) (v := 0) (Nat.lt_succ_self _)
          generalize cw 8 m 0 y2 = y2 at *
          refine cr_adv (d := e + 2) hG hs (fun y3 hs gg hI hJ => ?_)
          have hB := hB.go gg (by omega)
          have hr := hr.go gg (Nat.le_refl _)
          have hg := hg.trans gg
          have hn3 : (σ2.nx g L).n = σ2.n := rfl
          refine b_42_80 _ _ _ (by first | (exact hc_o (by first | assumption | (exact ⟨by decide, rfl⟩))) | assumption | (exact (hc_far (by omega)).trans (by assumption))) (by omega) (by first | rfl | assumption) (by first | (exact hc_o (by first | assumption | (exact ⟨by decide, rfl⟩))) | assumption | (exact (hc_far (by omega)).trans (by assumption))) (by omega) (by first | rfl | assumption) (by first | (exact hc_o (by first | assumption | (exact ⟨by decide, rfl⟩))) | assumption | (exact (hc_far (by omega)).trans (by assumption))) (by omega) (by first | rfl | assumption) (by first | (exact hc_o (by first | assumption | (exact ⟨by decide, rfl⟩))) | assumption | (exact (hc_far (by omega)).trans (by assumption))) (by omega) ?_
          refine cr_pa (d := e + 1) hG hs (fun i4 σ4 hok4 hi4 hnn4 hxx y4 hs gg => ?_) (fun w hw => ?_)
          · simp only [hok4, ms_eb_ok] at hsp
            have hB := hB.go gg (by omega)
            have hr := hr.go gg (by omega)
            have hg := hg.trans gg
            refine b_42_96 _ _ _ _ _ _ (by first | (exact hc_ai (by omega) (by first | assumption | (exact (ht9 (by assumption)).2.1) | (exact (ht9 (by assumption)).2.2.1) | (exact (ht9 (by assumption)).2.2.2) | rfl) (by decide)) | assumption | (exact (hc_far (by omega)).trans (by assumption))) (by omega) (by first | assumption | (exact ix_of (by omega) (by omega)) | (exact ⟨by decide, rfl, by decide⟩)) (by first | (exact (congrFun (hw_AI (by omega) (by first | assumption | (exact (ht9 (by assumption)).2.1) | (exact (ht9 (by assumption)).2.2.1) | (exact (ht9 (by assumption)).2.2.2) | rfl) (by decide)) _).trans (hc_o (by first | assumption | (exact ⟨by decide, rfl⟩)))) | assumption | (exact (hc_far (by omega)).trans (by assumption))) (by omega) (by first | rfl | assumption) (by first | (exact (congrFun (hw_AI (by omega) (by first | assumption | (exact (ht9 (by assumption)).2.1) | (exact (ht9 (by assumption)).2.2.1) | (exact (ht9 (by assumption)).2.2.2) | rfl) (by decide)) _).trans (hc_o (by first | assumption | (exact ⟨by decide, rfl⟩)))) | assumption | (exact (hc_far (by omega)).trans (by assumption))) (by omega) (by first | rfl | assumption) (by first | (exact (congrFun (hw_AI (by omega) (by first | assumption | (exact (ht9 (by assumption)).2.1) | (exact (ht9 (by assumption)).2.2.1) | (exact (ht9 (by assumption)).2.2.2) | rfl) (by decide)) _).trans (hc_o (by first | assumption | (exact ⟨by decide, rfl⟩)))) | assumption | (exact (hc_far (by omega)).trans (by assumption))) (by omega) (by first | rfl | assumption) (by first | (exact (congrFun (hw_AI (by omega) (by first | assumption | (exact (ht9 (by assumption)).2.1) | (exact (ht9 (by assumption)).2.2.1) | (exact (ht9 (by assumption)).2.2.2) | rfl) (by decide)) _).trans (hc_o (by first | assumption | (exact ⟨by decide, rfl⟩)))) | assumption | (exact (hc_far (by omega)).trans (by assumption))) (by omega) ?_
            refine hw_W (hw_AI (by omega) (by first | assumption | (exact (ht9 (by assumption)).2.1) | (exact (ht9 (by assumption)).2.2.1) | (exact (ht9 (by assumption)).2.2.2) | rfl) (by decide)) ?_
            show mi_W _ _ _ _ _ (n, sl, hc (cw 5 m (Int32.ofNat i4) y4) f0) _
            have hB := hB.w (k := 5) (v := Int32.ofNat i4)
            have hs := hs.w (k := 5) (m := m) (v := Int32.ofNat i4)
            have hg := hg.w (k := 5) (m := m) (v := Int32.ofNat i4) (by omega)
            have hr := hr.w (k := 5) (m := m) (v := Int32.ofNat i4) (Nat.lt_succ_self _)
            generalize cw 5 m (Int32.ofNat i4) y4 = y4 at *
            refine cr_to (d := e + 1) hG hs (fun i5 σ5 hok5 hi5 hnn5 hxx y5 hs gg => ?_) (fun w hw => ?_)
            · simp only [hok5, ms_eb_ok] at hsp
              have hB := hB.go gg (by omega)
              have hr := hr.go gg (by omega)
              have hg := hg.trans gg
              refine b_42_113 _ _ _ _ _ _ (by first | (exact hc_ai (by omega) (by first | assumption | (exact (ht9 (by assumption)).2.1) | (exact (ht9 (by assumption)).2.2.1) | (exact (ht9 (by assumption)).2.2.2) | rfl) (by decide)) | assumption | (exact (hc_far (by omega)).trans (by assumption))) (by omega) (by first | assumption | (exact ix_of (by omega) (by omega)) | (exact ⟨by decide, rfl, by decide⟩)) ?_
              refine hw_Q (hw_AI (by omega) (by first | assumption | (exact (ht9 (by assumption)).2.1) | (exact (ht9 (by assumption)).2.2.1) | (exact (ht9 (by assumption)).2.2.2) | rfl) (by decide)) ?_
              show Q _ (n, sl, hc (cw 6 m (Int32.ofNat i5) y5) f0)
              have e5 : σ2.n = σ5.n := by omega
              rw [e5] at hr
              exact ok i2 1 i4 i5 σ5 _ hsp (by decide) hs.w (hg.w (by omega)) hB.w (hr.w (Nat.lt_succ_self _)) (by omega)
            · exact cEr.kc (by decide +kernel) (by omega) ((er w (fun K => by rw [hsp, hw]; rfl)).go hg.1)
          · exact cEr.kc (by decide +kernel) (by omega) ((er w (fun K => by rw [hsp, hw]; rfl)).go hg.1)
        · intro z48
          exact absurd ((i_eq (b := 3) t2 rfl (by omega) (by omega)).mp (Classical.not_not.mp z48)) (by omega)
      · intro z16
        exact absurd (t2.trans (by rw [hk]; decide)) z16
    · have hti : ms_ti g L σ2 = .ok (2, σ2.nx g L) := by unfold ms_ti; rw [if_neg (show ¬ σ2.t.k = ms_kc 18 from fun h => absurd (hk.symm.trans h) (by decide)), if_pos (show σ2.t.k = ms_kc 19 from hk)]
      simp only [hti, ms_eb_ok] at hsp
      refine b_42_16 _ _ _ _ _ _ (by first | (exact hc_ai (by omega) (by first | assumption | (exact (ht9 (by assumption)).2.1) | (exact (ht9 (by assumption)).2.2.1) | (exact (ht9 (by assumption)).2.2.2) | rfl) (by decide)) | assumption | (exact (hc_far (by omega)).trans (by assumption))) (by omega) (by first | assumption | (exact ix_of (by omega) (by omega)) | (exact ⟨by decide, rfl, by decide⟩)) (by first | (exact (congrFun (hw_AI (by omega) (by first | assumption | (exact (ht9 (by assumption)).2.1) | (exact (ht9 (by assumption)).2.2.1) | (exact (ht9 (by assumption)).2.2.2) | rfl) (by decide)) _).trans (hc_o (by first | assumption | (exact ⟨by decide, rfl⟩)))) | assumption | (exact (hc_far (by omega)).trans (by assumption))) (by omega) (by first | rfl | assumption) (by first | (exact (congrFun (hw_AI (by omega) (by first | assumption | (exact (ht9 (by assumption)).2.1) | (exact (ht9 (by assumption)).2.2.1) | (exact (ht9 (by assumption)).2.2.2) | rfl) (by decide)) _).trans (hc_o (by first | assumption | (exact ⟨by decide, rfl⟩)))) | assumption | (exact (hc_far (by omega)).trans (by assumption))) (by omega) (by first | rfl | assumption) ?_ ?_
      · intro z16
        exact absurd ((i_eq (b := 2) t2 rfl (by omega) (by omega)).mp z16) (by omega)
      · intro z16
        refine hw_W (hw_AI (by omega) (by first | assumption | (exact (ht9 (by assumption)).2.1) | (exact (ht9 (by assumption)).2.2.1) | (exact (ht9 (by assumption)).2.2.2) | rfl) (by decide)) ?_
        show mi_W _ _ _ _ _ (n, sl, hc (cw 4 m (Int32.ofNat i2) y2) f0) _
        have hB := hB.w (k := 4) (v := Int32.ofNat i2)
        have hs := hs.w (k := 4) (m := m) (v := Int32.ofNat i2)
        have hg := hg.w (k := 4) (m := m) (v := Int32.ofNat i2) (by omega)
        have hr := hr.w (k := 4) (m := m) (v := Int32.ofNat i2) (Nat.lt_succ_self _)
        have t2 : (cw 4 m (Int32.ofNat i2) y2).I 1 1 2 = Int32.ofNat σ2.t.k := t2
        generalize cw 4 m (Int32.ofNat i2) y2 = y2 at *
        refine b_42_29 _ _ _ (by first | (exact hc_o (by first | assumption | (exact ⟨by decide, rfl⟩))) | assumption | (exact (hc_far (by omega)).trans (by assumption))) (by omega) (by first | rfl | assumption) (by first | (exact hc_o (by first | assumption | (exact ⟨by decide, rfl⟩))) | assumption | (exact (hc_far (by omega)).trans (by assumption))) (by omega) (by first | rfl | assumption) ?_ ?_
        · intro z29
          exact absurd (t2.trans (by rw [hk]; decide)) z29
        · intro z29
          refine b_42_40 _ _ _ ?_
          refine b_42_45 _ _ _ (by first | (exact hc_o (by first | assumption | (exact ⟨by decide, rfl⟩))) | assumption | (exact (hc_far (by omega)).trans (by assumption))) (by omega) ?_
          refine cr_re1 hn hG.2.1 ?_
          refine b_42_48 _ _ _ (by first | (exact hc_o (by first | assumption | (exact ⟨by decide, rfl⟩))) | assumption | (exact (hc_far (by omega)).trans (by assumption))) (by omega) (by first | rfl | assumption) (by first | (exact hc_o (by first | assumption | (exact ⟨by decide, rfl⟩))) | assumption | (exact (hc_far (by omega)).trans (by assumption))) (by omega) (by first | rfl | assumption) (by first | (exact hc_o (by first | assumption | (exact ⟨by decide, rfl⟩))) | assumption | (exact (hc_far (by omega)).trans (by assumption))) (by omega) (by first | rfl | assumption) (by first | (exact hc_o (by first | assumption | (exact ⟨by decide, rfl⟩))) | assumption | (exact (hc_far (by omega)).trans (by assumption))) (by omega) (by first | rfl | assumption) ?_ ?_
          · intro z48
            exact absurd (t2.trans (by rw [hk]; decide)) z48
          · intro z48
            refine b_42_67 _ _ _ ?_
            refine b_42_72 _ _ _ _ _ _ (by first | (exact hc_ai (by omega) (by first | assumption | (exact (ht9 (by assumption)).2.1) | (exact (ht9 (by assumption)).2.2.1) | (exact (ht9 (by assumption)).2.2.2) | rfl) (by decide)) | assumption | (exact (hc_far (by omega)).trans (by assumption))) (by omega) (by first | assumption | (exact ix_of (by omega) (by omega)) | (exact ⟨by decide, rfl, by decide⟩)) (by first | (exact (congrFun (hw_AI (by omega) (by first | assumption | (exact (ht9 (by assumption)).2.1) | (exact (ht9 (by assumption)).2.2.1) | (exact (ht9 (by assumption)).2.2.2) | rfl) (by decide)) _).trans (hc_o (by first | assumption | (exact ⟨by decide, rfl⟩)))) | assumption | (exact (hc_far (by omega)).trans (by assumption))) (by omega) (by first | rfl | assumption) (by first | (exact (congrFun (hw_AI (by omega) (by first | assumption | (exact (ht9 (by assumption)).2.1) | (exact (ht9 (by assumption)).2.2.1) | (exact (ht9 (by assumption)).2.2.2) | rfl) (by decide)) _).trans (hc_o (by first | assumption | (exact ⟨by decide, rfl⟩)))) | assumption | (exact (hc_far (by omega)).trans (by assumption))) (by omega) ?_
            refine hw_W (hw_AI (by omega) (by first | assumption | (exact (ht9 (by assumption)).2.1) | (exact (ht9 (by assumption)).2.2.1) | (exact (ht9 (by assumption)).2.2.2) | rfl) (by decide)) ?_
            show mi_W _ _ _ _ _ (n, sl, hc (cw 8 m 1 y2) f0) _
            have hB := hB.w (k := 8) (v := 1)
            have hs := hs.w (k := 8) (m := m) (v := 1)
            have hg := hg.w (k := 8) (m := m) (v := 1) (by omega)
            have hr := hr.w (k := 8) (m := m) (v := 1) (Nat.lt_succ_self _)
            generalize cw 8 m 1 y2 = y2 at *
            refine cr_adv (d := e + 2) hG hs (fun y3 hs gg hI hJ => ?_)
            have hB := hB.go gg (by omega)
            have hr := hr.go gg (Nat.le_refl _)
            have hg := hg.trans gg
            have hn3 : (σ2.nx g L).n = σ2.n := rfl
            refine b_42_80 _ _ _ (by first | (exact hc_o (by first | assumption | (exact ⟨by decide, rfl⟩))) | assumption | (exact (hc_far (by omega)).trans (by assumption))) (by omega) (by first | rfl | assumption) (by first | (exact hc_o (by first | assumption | (exact ⟨by decide, rfl⟩))) | assumption | (exact (hc_far (by omega)).trans (by assumption))) (by omega) (by first | rfl | assumption) (by first | (exact hc_o (by first | assumption | (exact ⟨by decide, rfl⟩))) | assumption | (exact (hc_far (by omega)).trans (by assumption))) (by omega) (by first | rfl | assumption) (by first | (exact hc_o (by first | assumption | (exact ⟨by decide, rfl⟩))) | assumption | (exact (hc_far (by omega)).trans (by assumption))) (by omega) ?_
            refine cr_pa (d := e + 1) hG hs (fun i4 σ4 hok4 hi4 hnn4 hxx y4 hs gg => ?_) (fun w hw => ?_)
            · simp only [hok4, ms_eb_ok] at hsp
              have hB := hB.go gg (by omega)
              have hr := hr.go gg (by omega)
              have hg := hg.trans gg
              refine b_42_96 _ _ _ _ _ _ (by first | (exact hc_ai (by omega) (by first | assumption | (exact (ht9 (by assumption)).2.1) | (exact (ht9 (by assumption)).2.2.1) | (exact (ht9 (by assumption)).2.2.2) | rfl) (by decide)) | assumption | (exact (hc_far (by omega)).trans (by assumption))) (by omega) (by first | assumption | (exact ix_of (by omega) (by omega)) | (exact ⟨by decide, rfl, by decide⟩)) (by first | (exact (congrFun (hw_AI (by omega) (by first | assumption | (exact (ht9 (by assumption)).2.1) | (exact (ht9 (by assumption)).2.2.1) | (exact (ht9 (by assumption)).2.2.2) | rfl) (by decide)) _).trans (hc_o (by first | assumption | (exact ⟨by decide, rfl⟩)))) | assumption | (exact (hc_far (by omega)).trans (by assumption))) (by omega) (by first | rfl | assumption) (by first | (exact (congrFun (hw_AI (by omega) (by first | assumption | (exact (ht9 (by assumption)).2.1) | (exact (ht9 (by assumption)).2.2.1) | (exact (ht9 (by assumption)).2.2.2) | rfl) (by decide)) _).trans (hc_o (by first | assumption | (exact ⟨by decide, rfl⟩)))) | assumption | (exact (hc_far (by omega)).trans (by assumption))) (by omega) (by first | rfl | assumption) (by first | (exact (congrFun (hw_AI (by omega) (by first | assumption | (exact (ht9 (by assumption)).2.1) | (exact (ht9 (by assumption)).2.2.1) | (exact (ht9 (by assumption)).2.2.2) | rfl) (by decide)) _).trans (hc_o (by first | assumption | (exact ⟨by decide, rfl⟩)))) | assumption | (exact (hc_far (by omega)).trans (by assumption))) (by omega) (by first | rfl | assumption) (by first | (exact (congrFun (hw_AI (by omega) (by first | assumption | (exact (ht9 (by assumption)).2.1) | (exact (ht9 (by assumption)).2.2.1) | (exact (ht9 (by assumption)).2.2.2) | rfl) (by decide)) _).trans (hc_o (by first | assumption | (exact ⟨by decide, rfl⟩)))) | assumption | (exact (hc_far (by omega)).trans (by assumption))) (by omega) ?_
              refine hw_W (hw_AI (by omega) (by first | assumption | (exact (ht9 (by assumption)).2.1) | (exact (ht9 (by assumption)).2.2.1) | (exact (ht9 (by assumption)).2.2.2) | rfl) (by decide)) ?_
              show mi_W _ _ _ _ _ (n, sl, hc (cw 5 m (Int32.ofNat i4) y4) f0) _
              have hB := hB.w (k := 5) (v := Int32.ofNat i4)
              have hs := hs.w (k := 5) (m := m) (v := Int32.ofNat i4)
              have hg := hg.w (k := 5) (m := m) (v := Int32.ofNat i4) (by omega)
              have hr := hr.w (k := 5) (m := m) (v := Int32.ofNat i4) (Nat.lt_succ_self _)
              generalize cw 5 m (Int32.ofNat i4) y4 = y4 at *
              refine cr_to (d := e + 1) hG hs (fun i5 σ5 hok5 hi5 hnn5 hxx y5 hs gg => ?_) (fun w hw => ?_)
              · simp only [hok5, ms_eb_ok] at hsp
                have hB := hB.go gg (by omega)
                have hr := hr.go gg (by omega)
                have hg := hg.trans gg
                refine b_42_113 _ _ _ _ _ _ (by first | (exact hc_ai (by omega) (by first | assumption | (exact (ht9 (by assumption)).2.1) | (exact (ht9 (by assumption)).2.2.1) | (exact (ht9 (by assumption)).2.2.2) | rfl) (by decide)) | assumption | (exact (hc_far (by omega)).trans (by assumption))) (by omega) (by first | assumption | (exact ix_of (by omega) (by omega)) | (exact ⟨by decide, rfl, by decide⟩)) ?_
                refine hw_Q (hw_AI (by omega) (by first | assumption | (exact (ht9 (by assumption)).2.1) | (exact (ht9 (by assumption)).2.2.1) | (exact (ht9 (by assumption)).2.2.2) | rfl) (by decide)) ?_
                show Q _ (n, sl, hc (cw 6 m (Int32.ofNat i5) y5) f0)
                have e5 : σ2.n = σ5.n := by omega
                rw [e5] at hr
                exact ok i2 2 i4 i5 σ5 _ hsp (by decide) hs.w (hg.w (by omega)) hB.w (hr.w (Nat.lt_succ_self _)) (by omega)
              · exact cEr.kc (by decide +kernel) (by omega) ((er w (fun K => by rw [hsp, hw]; rfl)).go hg.1)
            · exact cEr.kc (by decide +kernel) (by omega) ((er w (fun K => by rw [hsp, hw]; rfl)).go hg.1)
    · have hti : ms_ti g L σ2 = .error σ2.t.a := by unfold ms_ti; rw [if_neg (show ¬ σ2.t.k = ms_kc 18 from hk.1), if_neg (show ¬ σ2.t.k = ms_kc 19 from hk.2)]
      refine b_42_16 _ _ _ _ _ _ (by first | (exact hc_ai (by omega) (by first | assumption | (exact (ht9 (by assumption)).2.1) | (exact (ht9 (by assumption)).2.2.1) | (exact (ht9 (by assumption)).2.2.2) | rfl) (by decide)) | assumption | (exact (hc_far (by omega)).trans (by assumption))) (by omega) (by first | assumption | (exact ix_of (by omega) (by omega)) | (exact ⟨by decide, rfl, by decide⟩)) (by first | (exact (congrFun (hw_AI (by omega) (by first | assumption | (exact (ht9 (by assumption)).2.1) | (exact (ht9 (by assumption)).2.2.1) | (exact (ht9 (by assumption)).2.2.2) | rfl) (by decide)) _).trans (hc_o (by first | assumption | (exact ⟨by decide, rfl⟩)))) | assumption | (exact (hc_far (by omega)).trans (by assumption))) (by omega) (by first | rfl | assumption) (by first | (exact (congrFun (hw_AI (by omega) (by first | assumption | (exact (ht9 (by assumption)).2.1) | (exact (ht9 (by assumption)).2.2.1) | (exact (ht9 (by assumption)).2.2.2) | rfl) (by decide)) _).trans (hc_o (by first | assumption | (exact ⟨by decide, rfl⟩)))) | assumption | (exact (hc_far (by omega)).trans (by assumption))) (by omega) (by first | rfl | assumption) ?_ ?_
      · intro z16
        exact absurd ((i_eq (b := 2) t2 rfl (by omega) (by omega)).mp z16) hk.1
      · intro z16
        refine hw_W (hw_AI (by omega) (by first | assumption | (exact (ht9 (by assumption)).2.1) | (exact (ht9 (by assumption)).2.2.1) | (exact (ht9 (by assumption)).2.2.2) | rfl) (by decide)) ?_
        show mi_W _ _ _ _ _ (n, sl, hc (cw 4 m (Int32.ofNat i2) y2) f0) _
        have hB := hB.w (k := 4) (v := Int32.ofNat i2)
        have hs := hs.w (k := 4) (m := m) (v := Int32.ofNat i2)
        have hg := hg.w (k := 4) (m := m) (v := Int32.ofNat i2) (by omega)
        have hr := hr.w (k := 4) (m := m) (v := Int32.ofNat i2) (Nat.lt_succ_self _)
        have t2 : (cw 4 m (Int32.ofNat i2) y2).I 1 1 2 = Int32.ofNat σ2.t.k := t2
        generalize cw 4 m (Int32.ofNat i2) y2 = y2 at *
        refine b_42_29 _ _ _ (by first | (exact hc_o (by first | assumption | (exact ⟨by decide, rfl⟩))) | assumption | (exact (hc_far (by omega)).trans (by assumption))) (by omega) (by first | rfl | assumption) (by first | (exact hc_o (by first | assumption | (exact ⟨by decide, rfl⟩))) | assumption | (exact (hc_far (by omega)).trans (by assumption))) (by omega) (by first | rfl | assumption) ?_ ?_
        · intro z29
          refine b_42_44 _ _ _ ?_
          refine b_42_45 _ _ _ (by first | (exact hc_o (by first | assumption | (exact ⟨by decide, rfl⟩))) | assumption | (exact (hc_far (by omega)).trans (by assumption))) (by omega) ?_
          refine cr_re0 hn hG.2.1 ?_
          refine hx_c (by decide +kernel) (by omega) ?_
          exact (er σ2.t.a (fun K => by rw [hsp, hti]; rfl)).at hg.1 hs.1.2.2.2.2.1
        · intro z29
          exact absurd ((i_eq (b := 3) t2 rfl (by omega) (by omega)).mp (Classical.not_not.mp z29)) hk.2
  · exact cEr.kc (by decide +kernel) (by omega) ((er w (fun K => by rw [hsp, hw]; rfl)).go hg.1)
end
