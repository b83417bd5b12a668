/-! the first object's reading: values and truths come to their ends -/
section
variable {n sl : Nat} {f0 : Nat → mi_C} {g : Nat → Int32} {L : Nat}
theorem cj_false0 (hG : cG n sl f0) : cIE1 48 false n sl f0 g L 0 := by
  intro e a σ Q he h ok er
  obtain ⟨e, rfl⟩ : ∃ e', e = e' + 9 := ⟨e - 9, by omega⟩
  have hn := hG.1
  refine b_48_0 _ _ _ ?_ ?_
  · intro z0
    refine b_48_11 _ _ _ ?_
    refine b_48_12 _ _ _ (by first | (exact hc_o (by first | assumption | (exact ⟨by decide, rfl⟩))) | assumption | (exact (hc_far (by omega)).trans (by assumption))) (by omega) ?_
    refine cr_re0 hn hG.2.1 ?_
    refine hx_c (by decide +kernel) (by omega) ?_
    exact (er _ rfl).at cF.re h.1.2.2.2.2.1
  · intro z0
    exact absurd (show (100 : Int32) < Int32.ofNat (101 - 0) by decide) z0
theorem cj_false1 {j : Nat} (hG : cG n sl f0) (hj : j + 1 ≤ 100) (IH : cIE n sl f0 g L j) : cIE1 48 false n sl f0 g L (j + 1) := by
  intro e a σ Q he h ok er
  obtain ⟨e, rfl⟩ : ∃ e', e = e' + 9 := ⟨e - 9, by omega⟩
  have hn := hG.1
  have h40 := h.1.k40
  have h2 := h.1.2.2.2.1
  have hl2 : Int32.ofNat (101 - (j + 1)) + 1 = Int32.ofNat (101 - j) := by rw [of_succ, show 101 - (j + 1) + 1 = 101 - j by omega]
  refine b_48_0 _ _ _ ?_ ?_
  · intro z0
    exact absurd ((i_lt (a := 100) rfl rfl (by omega) (by omega)).mp z0) (by omega)
  · intro z0
    refine b_48_7 _ _ _ ?_
    refine b_48_12 _ _ _ (by first | (exact hc_o (by first | assumption | (exact ⟨by decide, rfl⟩))) | assumption | (exact (hc_far (by omega)).trans (by assumption))) (by omega) ?_
    refine cr_re1 hn hG.2.1 ?_
    refine b_48_15 _ _ _ (by first | (exact hc_o (by first | assumption | (exact ⟨by decide, rfl⟩))) | assumption | (exact (hc_far (by omega)).trans (by assumption))) (by omega) (by first | rfl | assumption) (by first | (exact hc_o (by first | assumption | (exact ⟨by decide, rfl⟩))) | assumption | (exact (hc_far (by omega)).trans (by assumption))) (by omega) (by first | rfl | assumption) ?_ ?_
    · intro z15
      have hk24 : ¬ σ.t.k = ms_kc 40 := fun e => z15 (by rw [h2, e]; decide)
      refine ci_head0 hG h (fun hal => ?_) (fun hal => er _ (ms_E_n hk24 ?_))
      · have hks : σ.t.k = 37 ∨ σ.t.k = 28 ∨ σ.t.k = 29 ∨ σ.t.k = 30 ∨ σ.t.k = 31 ∨ σ.t.k = 11 ∨ σ.t.k = 12 ∨ σ.t.k = 13 ∨ σ.t.k = 14 ∨ σ.t.k = 15 ∨ σ.t.k = 16 ∨ σ.t.k = 17 := by
          unfold cal at hal
          dsimp only at hal
          omega
        rcases hks with hk | hk | hk | hk | hk | hk | hk | hk | hk | hk | hk | hk
        · rw [hk]
          exact ci_o10 hG hl2 (by omega) IH h hk ok er
        · rw [hk]
          exact ci_o13 hG hl2 (by omega) IH h hk ok er
        · rw [hk]
          exact ci_o14 hG hl2 (by omega) IH h hk ok er
        · rw [hk]
          exact ci_o15 hG hl2 (by omega) IH h hk ok er
        · rw [hk]
          exact ci_o16 hG hl2 (by omega) IH h hk ok er
        · rw [hk]
          exact ci_o11 hG hl2 (by omega) IH h hk ok er
        · rw [hk]
          exact ci_o12 hG hl2 (by omega) IH h hk ok er
        · rw [hk]
          exact ci_o17 hG hl2 (by omega) IH h hk ok er
        · rw [hk]
          exact ci_o18 hG hl2 (by omega) IH h hk ok er
        · rw [hk]
          exact ci_o19 hG hl2 (by omega) IH h hk ok er
        · rw [hk]
          exact ci_o20 hG hl2 (by omega) IH h hk ok er
        · rw [hk]
          exact ci_o21 hG hl2 (by omega) IH h hk ok er
      · have := (not_congr (cal_op (b := false) h40)).mpr hal
        simpa using this
    · intro z15
      have hk24 : σ.t.k = ms_kc 40 := (i_eq (b := 24) h2 rfl (by omega) (by omega)).mp (Classical.not_not.mp z15)
      have hsp := ms_E_b (L := L) (g := g) (k := j) (b := false) hk24
      refine b_48_27 _ _ _ (by first | (exact hc_o (by first | assumption | (exact ⟨by decide, rfl⟩))) | assumption | (exact (hc_far (by omega)).trans (by assumption))) (by omega) (by first | rfl | assumption) (by first | (exact hc_o (by first | assumption | (exact ⟨by decide, rfl⟩))) | assumption | (exact (hc_far (by omega)).trans (by assumption))) (by omega) ?_
      refine cr_adv (d := e + 2) hG h (fun a1 h1 g1 hI hJ => ?_)
      refine b_48_34 _ _ _ (by first | (exact hc_o (by first | assumption | (exact ⟨by decide, rfl⟩))) | assumption | (exact (hc_far (by omega)).trans (by assumption))) (by omega) ?_
      rw [hl2]
      refine IH.1 (e + 8) _ _ _ (by omega) h1 (fun a2 σ2 hok h2 g2 r2 e7 hlt => ?_) (fun w hw => ?_)
      · rw [hok, ms_eb_ok] at hsp
        refine b_48_41 _ _ _ (by first | (exact hc_o (by first | assumption | (exact ⟨by decide, rfl⟩))) | assumption | (exact (hc_far (by omega)).trans (by assumption))) (by omega) ?_
        refine cr_take (k := 25) (d := e + 1) hG (by omega) h2 (fun hne a3 h3 g3 hI3 hJ3 => ?_) (fun w hw => ?_)
        · refine b_48_48 _ _ _ ?_
          refine ok a3 (σ2.nx g L) (by rw [hsp]; exact hne) h3 (g1.trans (g2.trans g3)) (r2.go g3 (Nat.le_refl _)) ?_ hlt
          rw [hI3]
          exact e7
        · exact cEr.kc (by decide +kernel) (by omega) ((er w (by rw [hsp]; exact hw)).go (g1.trans g2).1)
      · exact cEr.kc (by decide +kernel) (by omega) ((er w (by rw [hsp, hw]; rfl)).go g1.1)
theorem cj_true0 (hG : cG n sl f0) : cIE1 50 true n sl f0 g L 0 := by
  intro e a σ Q he h ok er
  obtain ⟨e, rfl⟩ : ∃ e', e = e' + 9 := ⟨e - 9, by omega⟩
  have hn := hG.1
  refine b_50_0 _ _ _ ?_ ?_
  · intro z0
    refine b_50_11 _ _ _ ?_
    refine b_50_12 _ _ _ (by first | (exact hc_o (by first | assumption | (exact ⟨by decide, rfl⟩))) | assumption | (exact (hc_far (by omega)).trans (by assumption))) (by omega) ?_
    refine cr_re0 hn hG.2.1 ?_
    refine hx_c (by decide +kernel) (by omega) ?_
    exact (er _ rfl).at cF.re h.1.2.2.2.2.1
  · intro z0
    exact absurd (show (100 : Int32) < Int32.ofNat (101 - 0) by decide) z0
theorem cj_true1 {j : Nat} (hG : cG n sl f0) (hj : j + 1 ≤ 100) (IH : cIE n sl f0 g L j) : cIE1 50 true n sl f0 g L (j + 1) := by
  intro e a σ Q he h ok er
  obtain ⟨e, rfl⟩ : ∃ e', e = e' + 9 := ⟨e - 9, by omega⟩
  have hn := hG.1
  have h40 := h.1.k40
  have h2 := h.1.2.2.2.1
  have hl2 : Int32.ofNat (101 - (j + 1)) + 1 = Int32.ofNat (101 - j) := by rw [of_succ, show 101 - (j + 1) + 1 = 101 - j by omega]
  refine b_50_0 _ _ _ ?_ ?_
  · intro z0
    exact absurd ((i_lt (a := 100) rfl rfl (by omega) (by omega)).mp z0) (by omega)
  · intro z0
    refine b_50_7 _ _ _ ?_
    refine b_50_12 _ _ _ (by first | (exact hc_o (by first | assumption | (exact ⟨by decide, rfl⟩))) | assumption | (exact (hc_far (by omega)).trans (by assumption))) (by omega) ?_
    refine cr_re1 hn hG.2.1 ?_
    refine b_50_15 _ _ _ (by first | (exact hc_o (by first | assumption | (exact ⟨by decide, rfl⟩))) | assumption | (exact (hc_far (by omega)).trans (by assumption))) (by omega) (by first | rfl | assumption) (by first | (exact hc_o (by first | assumption | (exact ⟨by decide, rfl⟩))) | assumption | (exact (hc_far (by omega)).trans (by assumption))) (by omega) (by first | rfl | assumption) ?_ ?_
    · intro z15
      have hk24 : ¬ σ.t.k = ms_kc 40 := fun e => z15 (by rw [h2, e]; decide)
      refine ci_head1 hG h (fun hal => ?_) (fun hal => er _ (ms_E_n hk24 ?_))
      · have hks : σ.t.k = 32 ∨ σ.t.k = 33 ∨ σ.t.k = 34 ∨ σ.t.k = 35 ∨ σ.t.k = 36 ∨ σ.t.k = 18 ∨ σ.t.k = 19 ∨ σ.t.k = 20 ∨ σ.t.k = 21 ∨ σ.t.k = 22 ∨ σ.t.k = 23 := by
          unfold cal at hal
          dsimp only at hal
          omega
        rcases hks with hk | hk | hk | hk | hk | hk | hk | hk | hk | hk | hk
        · rw [hk]
          exact ci_o31 hG hl2 (by omega) IH h hk ok er
        · rw [hk]
          exact ci_o30 hG hl2 (by omega) IH h hk ok er
        · rw [hk]
          exact ci_o29 hG hl2 (by omega) IH h hk ok er
        · rw [hk]
          exact ci_o28 hG hl2 (by omega) IH h hk ok er
        · rw [hk]
          exact ci_o32 hG hl2 (by omega) IH h hk ok er
        · rw [hk]
          exact ci_o22 hG hl2 (by omega) IH h hk ok er
        · rw [hk]
          exact ci_o23 hG hl2 (by omega) IH h hk ok er
        · rw [hk]
          exact ci_o24 hG hl2 (by omega) IH h hk ok er
        · rw [hk]
          exact ci_o25 hG hl2 (by omega) IH h hk ok er
        · rw [hk]
          exact ci_o26 hG hl2 (by omega) IH h hk ok er
        · rw [hk]
          exact ci_o27 hG hl2 (by omega) IH h hk ok er
      · have := (not_congr (cal_op (b := true) h40)).mpr hal
        simpa using this
    · intro z15
      have hk24 : σ.t.k = ms_kc 40 := (i_eq (b := 24) h2 rfl (by omega) (by omega)).mp (Classical.not_not.mp z15)
      have hsp := ms_E_b (L := L) (g := g) (k := j) (b := true) hk24
      refine b_50_27 _ _ _ (by first | (exact hc_o (by first | assumption | (exact ⟨by decide, rfl⟩))) | assumption | (exact (hc_far (by omega)).trans (by assumption))) (by omega) (by first | rfl | assumption) (by first | (exact hc_o (by first | assumption | (exact ⟨by decide, rfl⟩))) | assumption | (exact (hc_far (by omega)).trans (by assumption))) (by omega) ?_
      refine cr_adv (d := e + 2) hG h (fun a1 h1 g1 hI hJ => ?_)
      refine b_50_34 _ _ _ (by first | (exact hc_o (by first | assumption | (exact ⟨by decide, rfl⟩))) | assumption | (exact (hc_far (by omega)).trans (by assumption))) (by omega) ?_
      rw [hl2]
      refine IH.2 (e + 8) _ _ _ (by omega) h1 (fun a2 σ2 hok h2 g2 r2 e7 hlt => ?_) (fun w hw => ?_)
      · rw [hok, ms_eb_ok] at hsp
        refine b_50_41 _ _ _ (by first | (exact hc_o (by first | assumption | (exact ⟨by decide, rfl⟩))) | assumption | (exact (hc_far (by omega)).trans (by assumption))) (by omega) ?_
        refine cr_take (k := 25) (d := e + 1) hG (by omega) h2 (fun hne a3 h3 g3 hI3 hJ3 => ?_) (fun w hw => ?_)
        · refine b_50_48 _ _ _ ?_
          refine ok a3 (σ2.nx g L) (by rw [hsp]; exact hne) h3 (g1.trans (g2.trans g3)) (r2.go g3 (Nat.le_refl _)) ?_ hlt
          rw [hI3]
          exact e7
        · exact cEr.kc (by decide +kernel) (by omega) ((er w (by rw [hsp]; exact hw)).go (g1.trans g2).1)
      · exact cEr.kc (by decide +kernel) (by omega) ((er w (by rw [hsp, hw]; rfl)).go g1.1)
theorem cj_E (hG : cG n sl f0) : ∀ k, k ≤ 100 → cIE n sl f0 g L k := by
  intro k
  induction k with
  | zero => intro _; exact ⟨cj_false0 hG, cj_true0 hG⟩
  | succ j ih => intro hk; exact ⟨cj_false1 hG hk (ih (by omega)), cj_true1 hG hk (ih (by omega))⟩
end
