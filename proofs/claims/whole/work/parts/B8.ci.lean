/-! the first object's reading: values and truths -/
def cokE (n sl : Nat) (f0 : Nat → mi_C) (g : Nat → Int32) (L : Nat) (Q : (Option Value ⊕ Nat) → mi_H → Prop) (a : mh_A) (σ : ms_S) (r : ms_R Unit) : Prop := ∀ a' σ', r = .ok ((), σ') → cst a' g L σ' → cgo a σ a' σ' → crg σ.n σ'.n a' σ'.tb → a'.AI 2 3 7 σ.n = Int32.ofNat σ'.n → σ.n < σ'.n → Q (.inl (some (.int (Int32.ofNat σ.n)))) (n, sl, hc a' f0)
def cerE (n sl : Nat) (f0 : Nat → mi_C) (Q : (Option Value ⊕ Nat) → mi_H → Prop) (a : mh_A) (r : ms_R Unit) : Prop := ∀ w, r = .error w → cEr n sl f0 Q a w
def cIE1 (y : Nat) (b : Bool) (n sl : Nat) (f0 : Nat → mi_C) (g : Nat → Int32) (L k : Nat) : Prop := ∀ (e : Nat) (a : mh_A) (σ : ms_S) (Q : (Option Value ⊕ Nat) → mi_H → Prop), k + 9 ≤ e → cst a g L σ → cokE n sl f0 g L Q a σ (ms_E g L k b σ) → cerE n sl f0 Q a (ms_E g L k b σ) → mi_W e y 0 (mi_en 5 [.ref 15, .int (Int32.ofNat (101 - k))]) [] (n, sl, hc a f0) Q
def cIE (n sl : Nat) (f0 : Nat → mi_C) (g : Nat → Int32) (L k : Nat) : Prop := cIE1 48 false n sl f0 g L k ∧ cIE1 50 true n sl f0 g L k
def cal (b : Bool) (k : Nat) : Prop := match b with
  | false => k = 37 ∨ (28 ≤ k ∧ k ≤ 31) ∨ (11 ≤ k ∧ k ≤ 17)
  | true => (32 ≤ k ∧ k ≤ 36) ∨ (18 ≤ k ∧ k ≤ 23)
def cof (b : Bool) (k : Nat) : Int32 := match b with
  | false => if 28 ≤ k ∧ k ≤ 31 then 1 else 0
  | true => if 32 ≤ k ∧ k ≤ 36 then 1 else 0
theorem cal_op0 : ∀ k : Fin 41, (ms_op false k.1).isSome = true ↔ (k.1 = 37 ∨ (28 ≤ k.1 ∧ k.1 ≤ 31) ∨ (11 ≤ k.1 ∧ k.1 ≤ 17)) := by decide +kernel
theorem cal_op1 : ∀ k : Fin 41, (ms_op true k.1).isSome = true ↔ ((32 ≤ k.1 ∧ k.1 ≤ 36) ∨ (18 ≤ k.1 ∧ k.1 ≤ 23)) := by decide +kernel
theorem cal_op {b : Bool} {k : Nat} (h : k ≤ 40) : (ms_op b k).isSome = true ↔ cal b k := by
  cases b
  · exact cal_op0 ⟨k, by omega⟩
  · exact cal_op1 ⟨k, by omega⟩
section
variable {d e n sl j : Nat} {a a0 : mh_A} {σ σ0 : ms_S} {f0 : Nat → mi_C} {Q : (Option Value ⊕ Nat) → mi_H → Prop} {g : Nat → Int32} {L : Nat}
theorem cmpN {x : Int32} {k : Nat} (hx : x = Int32.ofNat k) (hk : k ≤ 40) (c : Nat) (hc : c ≤ 1000000) : (x < Int32.ofNat c ↔ k < c) ∧ (Int32.ofNat c < x ↔ c < k) ∧ (x = Int32.ofNat c ↔ k = c) := ⟨i_lt hx rfl (by omega) hc, i_lt rfl hx hc (by omega), i_eq hx rfl (by omega) hc⟩
theorem ci_head0 {l2 : Int32} (hG : cG n sl f0) (h : cst a g L σ) (K1 : cal false σ.t.k → mi_W (e + 9) 48 107 [some (.ref 15), some (.int l2), some (.int (Int32.ofNat σ.t.k)), some (.int (cof false σ.t.k)), none] [] (n, sl, hc a f0) Q) (K0 : ¬ cal false σ.t.k → cEr n sl f0 Q a σ.t.a) : mi_W (e + 9) 48 50 [some (.ref 15), some (.int l2), none, none, none] [] (n, sl, hc a f0) Q := by
  have hn := hG.1
  have h40 := h.1.k40
  have h2 := h.1.2.2.2.1
  have e5 := h.1.2.2.2.2.1
  have c28 := (cmpN h2 h40 28 (by omega)).1
  have c31 := (cmpN (x := Int32.ofNat σ.t.k) rfl h40 31 (by omega)).2.1
  have c37 := (cmpN (x := Int32.ofNat σ.t.k) rfl h40 37 (by omega)).2.2
  have c11 := (cmpN (x := Int32.ofNat σ.t.k) rfl h40 11 (by omega)).1
  have c17 := (cmpN (x := Int32.ofNat σ.t.k) rfl h40 17 (by omega)).2.1
  unfold cal cof at *
  dsimp only at *
  refine b_48_50 _ _ _ (by first | (exact hc_o (by first | assumption | (exact ⟨by decide, rfl⟩))) | assumption | (exact (hc_far (by omega)).trans (by assumption))) (by omega) (by first | rfl | assumption) (by first | (exact hc_o (by first | assumption | (exact ⟨by decide, rfl⟩))) | assumption | (exact (hc_far (by omega)).trans (by assumption))) (by omega) (by first | rfl | assumption) ?_ ?_
  · intro z50
    have z50 := c28.mp z50
    rw [h2]
    refine b_48_74 _ _ _ ?_
    refine b_48_75 _ _ _ ?_ ?_
    · intro z75
      have z75 := c37.mp z75
      refine b_48_99 _ _ _ ?_
      refine b_48_104 _ _ _ (by first | (exact hc_o (by first | assumption | (exact ⟨by decide, rfl⟩))) | assumption | (exact (hc_far (by omega)).trans (by assumption))) (by omega) ?_
      refine cr_re1 hn hG.2.1 ?_
      have K := K1 (by omega)
      first | (rw [if_pos (by omega)] at K; exact K) | (rw [if_neg (by omega)] at K; exact K)
    · intro z75
      have z75 := (not_congr c37).mp z75
      refine b_48_83 _ _ _ ?_ ?_
      · intro z83
        first | (exact absurd z83 (by decide)) | (exact absurd (by decide) z83) | (exact absurd rfl z83) | (exact absurd z83 (of_nn (by omega))) | (exact absurd (of_np (by omega)) z83) | omega
      · intro z83
        refine b_48_87 _ _ _ ?_ ?_
        · intro z87
          have z87 := c11.mp z87
          refine b_48_103 _ _ _ ?_
          refine b_48_104 _ _ _ (by first | (exact hc_o (by first | assumption | (exact ⟨by decide, rfl⟩))) | assumption | (exact (hc_far (by omega)).trans (by assumption))) (by omega) ?_
          refine cr_re0 hn hG.2.1 ?_
          refine hx_c (by decide +kernel) (by omega) ?_
          exact (K0 (by omega)).at cF.re e5
        · intro z87
          have z87 := (not_congr c11).mp z87
          refine b_48_93 _ _ _ ?_ ?_
          · intro z93
            have z93 := c17.mp z93
            refine b_48_103 _ _ _ ?_
            refine b_48_104 _ _ _ (by first | (exact hc_o (by first | assumption | (exact ⟨by decide, rfl⟩))) | assumption | (exact (hc_far (by omega)).trans (by assumption))) (by omega) ?_
            refine cr_re0 hn hG.2.1 ?_
            refine hx_c (by decide +kernel) (by omega) ?_
            exact (K0 (by omega)).at cF.re e5
          · intro z93
            have z93 := (not_congr c17).mp z93
            refine b_48_99 _ _ _ ?_
            refine b_48_104 _ _ _ (by first | (exact hc_o (by first | assumption | (exact ⟨by decide, rfl⟩))) | assumption | (exact (hc_far (by omega)).trans (by assumption))) (by omega) ?_
            refine cr_re1 hn hG.2.1 ?_
            have K := K1 (by omega)
            first | (rw [if_pos (by omega)] at K; exact K) | (rw [if_neg (by omega)] at K; exact K)
  · intro z50
    have z50 := (not_congr c28).mp z50
    rw [h2]
    refine b_48_64 _ _ _ ?_ ?_
    · intro z64
      have z64 := c31.mp z64
      refine b_48_74 _ _ _ ?_
      refine b_48_75 _ _ _ ?_ ?_
      · intro z75
        have z75 := c37.mp z75
        refine b_48_99 _ _ _ ?_
        refine b_48_104 _ _ _ (by first | (exact hc_o (by first | assumption | (exact ⟨by decide, rfl⟩))) | assumption | (exact (hc_far (by omega)).trans (by assumption))) (by omega) ?_
        refine cr_re1 hn hG.2.1 ?_
        have K := K1 (by omega)
        first | (rw [if_pos (by omega)] at K; exact K) | (rw [if_neg (by omega)] at K; exact K)
      · intro z75
        have z75 := (not_congr c37).mp z75
        refine b_48_83 _ _ _ ?_ ?_
        · intro z83
          first | (exact absurd z83 (by decide)) | (exact absurd (by decide) z83) | (exact absurd rfl z83) | (exact absurd z83 (of_nn (by omega))) | (exact absurd (of_np (by omega)) z83) | omega
        · intro z83
          refine b_48_87 _ _ _ ?_ ?_
          · intro z87
            have z87 := c11.mp z87
            refine b_48_103 _ _ _ ?_
            refine b_48_104 _ _ _ (by first | (exact hc_o (by first | assumption | (exact ⟨by decide, rfl⟩))) | assumption | (exact (hc_far (by omega)).trans (by assumption))) (by omega) ?_
            refine cr_re0 hn hG.2.1 ?_
            refine hx_c (by decide +kernel) (by omega) ?_
            exact (K0 (by omega)).at cF.re e5
          · intro z87
            have z87 := (not_congr c11).mp z87
            refine b_48_93 _ _ _ ?_ ?_
            · intro z93
              have z93 := c17.mp z93
              refine b_48_103 _ _ _ ?_
              refine b_48_104 _ _ _ (by first | (exact hc_o (by first | assumption | (exact ⟨by decide, rfl⟩))) | assumption | (exact (hc_far (by omega)).trans (by assumption))) (by omega) ?_
              refine cr_re0 hn hG.2.1 ?_
              refine hx_c (by decide +kernel) (by omega) ?_
              exact (K0 (by omega)).at cF.re e5
            · intro z93
              have z93 := (not_congr c17).mp z93
              refine b_48_99 _ _ _ ?_
              refine b_48_104 _ _ _ (by first | (exact hc_o (by first | assumption | (exact ⟨by decide, rfl⟩))) | assumption | (exact (hc_far (by omega)).trans (by assumption))) (by omega) ?_
              refine cr_re1 hn hG.2.1 ?_
              have K := K1 (by omega)
              first | (rw [if_pos (by omega)] at K; exact K) | (rw [if_neg (by omega)] at K; exact K)
    · intro z64
      have z64 := (not_congr c31).mp z64
      refine b_48_70 _ _ _ ?_
      refine b_48_75 _ _ _ ?_ ?_
      · intro z75
        have z75 := c37.mp z75
        refine b_48_99 _ _ _ ?_
        refine b_48_104 _ _ _ (by first | (exact hc_o (by first | assumption | (exact ⟨by decide, rfl⟩))) | assumption | (exact (hc_far (by omega)).trans (by assumption))) (by omega) ?_
        refine cr_re1 hn hG.2.1 ?_
        have K := K1 (by omega)
        first | (rw [if_pos (by omega)] at K; exact K) | (rw [if_neg (by omega)] at K; exact K)
      · intro z75
        have z75 := (not_congr c37).mp z75
        refine b_48_83 _ _ _ ?_ ?_
        · intro z83
          refine b_48_99 _ _ _ ?_
          refine b_48_104 _ _ _ (by first | (exact hc_o (by first | assumption | (exact ⟨by decide, rfl⟩))) | assumption | (exact (hc_far (by omega)).trans (by assumption))) (by omega) ?_
          refine cr_re1 hn hG.2.1 ?_
          have K := K1 (by omega)
          first | (rw [if_pos (by omega)] at K; exact K) | (rw [if_neg (by omega)] at K; exact K)
        · intro z83
          first | (exact absurd z83 (by decide)) | (exact absurd (by decide) z83) | (exact absurd rfl z83) | (exact absurd z83 (of_nn (by omega))) | (exact absurd (of_np (by omega)) z83) | omega
theorem ci_head1 {l2 : Int32} (hG : cG n sl f0) (h : cst a g L σ) (K1 : cal true σ.t.k → mi_W (e + 9) 50 101 [some (.ref 15), some (.int l2), some (.int (Int32.ofNat σ.t.k)), some (.int (cof true σ.t.k)), none] [] (n, sl, hc a f0) Q) (K0 : ¬ cal true σ.t.k → cEr n sl f0 Q a σ.t.a) : mi_W (e + 9) 50 50 [some (.ref 15), some (.int l2), none, none, none] [] (n, sl, hc a f0) Q := by
  have hn := hG.1
  have h40 := h.1.k40
  have h2 := h.1.2.2.2.1
  have e5 := h.1.2.2.2.2.1
  have c32 := (cmpN h2 h40 32 (by omega)).1
  have c36 := (cmpN (x := Int32.ofNat σ.t.k) rfl h40 36 (by omega)).2.1
  have c18 := (cmpN (x := Int32.ofNat σ.t.k) rfl h40 18 (by omega)).1
  have c23 := (cmpN (x := Int32.ofNat σ.t.k) rfl h40 23 (by omega)).2.1
  unfold cal cof at *
  dsimp only at *
  refine b_50_50 _ _ _ (by first | (exact hc_o (by first | assumption | (exact ⟨by decide, rfl⟩))) | assumption | (exact (hc_far (by omega)).trans (by assumption))) (by omega) (by first | rfl | assumption) (by first | (exact hc_o (by first | assumption | (exact ⟨by decide, rfl⟩))) | assumption | (exact (hc_far (by omega)).trans (by assumption))) (by omega) (by first | rfl | assumption) ?_ ?_
  · intro z50
    have z50 := c32.mp z50
    rw [h2]
    refine b_50_74 _ _ _ ?_
    refine b_50_75 _ _ _ ?_ ?_
    · intro z75
      first | (exact absurd z75 (by decide)) | (exact absurd (by decide) z75) | (exact absurd rfl z75) | (exact absurd z75 (of_nn (by omega))) | (exact absurd (of_np (by omega)) z75) | omega
    · intro z75
      refine b_50_81 _ _ _ ?_ ?_
      · intro z81
        have z81 := c18.mp z81
        refine b_50_97 _ _ _ ?_
        refine b_50_98 _ _ _ (by first | (exact hc_o (by first | assumption | (exact ⟨by decide, rfl⟩))) | assumption | (exact (hc_far (by omega)).trans (by assumption))) (by omega) ?_
        refine cr_re0 hn hG.2.1 ?_
        refine hx_c (by decide +kernel) (by omega) ?_
        exact (K0 (by omega)).at cF.re e5
      · intro z81
        have z81 := (not_congr c18).mp z81
        refine b_50_87 _ _ _ ?_ ?_
        · intro z87
          have z87 := c23.mp z87
          refine b_50_97 _ _ _ ?_
          refine b_50_98 _ _ _ (by first | (exact hc_o (by first | assumption | (exact ⟨by decide, rfl⟩))) | assumption | (exact (hc_far (by omega)).trans (by assumption))) (by omega) ?_
          refine cr_re0 hn hG.2.1 ?_
          refine hx_c (by decide +kernel) (by omega) ?_
          exact (K0 (by omega)).at cF.re e5
        · intro z87
          have z87 := (not_congr c23).mp z87
          refine b_50_93 _ _ _ ?_
          refine b_50_98 _ _ _ (by first | (exact hc_o (by first | assumption | (exact ⟨by decide, rfl⟩))) | assumption | (exact (hc_far (by omega)).trans (by assumption))) (by omega) ?_
          refine cr_re1 hn hG.2.1 ?_
          have K := K1 (by omega)
          first | (rw [if_pos (by omega)] at K; exact K) | (rw [if_neg (by omega)] at K; exact K)
  · intro z50
    have z50 := (not_congr c32).mp z50
    rw [h2]
    refine b_50_64 _ _ _ ?_ ?_
    · intro z64
      have z64 := c36.mp z64
      refine b_50_74 _ _ _ ?_
      refine b_50_75 _ _ _ ?_ ?_
      · intro z75
        first | (exact absurd z75 (by decide)) | (exact absurd (by decide) z75) | (exact absurd rfl z75) | (exact absurd z75 (of_nn (by omega))) | (exact absurd (of_np (by omega)) z75) | omega
      · intro z75
        refine b_50_81 _ _ _ ?_ ?_
        · intro z81
          have z81 := c18.mp z81
          refine b_50_97 _ _ _ ?_
          refine b_50_98 _ _ _ (by first | (exact hc_o (by first | assumption | (exact ⟨by decide, rfl⟩))) | assumption | (exact (hc_far (by omega)).trans (by assumption))) (by omega) ?_
          refine cr_re0 hn hG.2.1 ?_
          refine hx_c (by decide +kernel) (by omega) ?_
          exact (K0 (by omega)).at cF.re e5
        · intro z81
          have z81 := (not_congr c18).mp z81
          refine b_50_87 _ _ _ ?_ ?_
          · intro z87
            have z87 := c23.mp z87
            refine b_50_97 _ _ _ ?_
            refine b_50_98 _ _ _ (by first | (exact hc_o (by first | assumption | (exact ⟨by decide, rfl⟩))) | assumption | (exact (hc_far (by omega)).trans (by assumption))) (by omega) ?_
            refine cr_re0 hn hG.2.1 ?_
            refine hx_c (by decide +kernel) (by omega) ?_
            exact (K0 (by omega)).at cF.re e5
          · intro z87
            have z87 := (not_congr c23).mp z87
            refine b_50_93 _ _ _ ?_
            refine b_50_98 _ _ _ (by first | (exact hc_o (by first | assumption | (exact ⟨by decide, rfl⟩))) | assumption | (exact (hc_far (by omega)).trans (by assumption))) (by omega) ?_
            refine cr_re1 hn hG.2.1 ?_
            have K := K1 (by omega)
            first | (rw [if_pos (by omega)] at K; exact K) | (rw [if_neg (by omega)] at K; exact K)
    · intro z64
      have z64 := (not_congr c36).mp z64
      refine b_50_70 _ _ _ ?_
      refine b_50_75 _ _ _ ?_ ?_
      · intro z75
        refine b_50_93 _ _ _ ?_
        refine b_50_98 _ _ _ (by first | (exact hc_o (by first | assumption | (exact ⟨by decide, rfl⟩))) | assumption | (exact (hc_far (by omega)).trans (by assumption))) (by omega) ?_
        refine cr_re1 hn hG.2.1 ?_
        have K := K1 (by omega)
        first | (rw [if_pos (by omega)] at K; exact K) | (rw [if_neg (by omega)] at K; exact K)
      · intro z75
        first | (exact absurd z75 (by decide)) | (exact absurd (by decide) z75) | (exact absurd rfl z75) | (exact absurd z75 (of_nn (by omega))) | (exact absurd (of_np (by omega)) z75) | omega
theorem ci_o13 {l2 : Int32} (hG : cG n sl f0) (hl2 : l2 + 1 = Int32.ofNat (101 - j)) (hj : j + 10 ≤ e + 9) (IH : cIE n sl f0 g L j) (h : cst a0 g L σ0) (hk : σ0.t.k = 28) (ok : cokE n sl f0 g L Q a0 σ0 (ms_E g L (j + 1) false σ0)) (er : cerE n sl f0 Q a0 (ms_E g L (j + 1) false σ0)) : mi_W (e + 9) 48 107 [some (.ref 15), some (.int l2), some (.int 28), some (.int 1), none] [] (n, sl, hc a0 f0) Q := by
  have hn := hG.1
  have hk40 : ¬ σ0.t.k = ms_kc 40 := by rw [hk]; decide
  have hop : ms_op false σ0.t.k = some 13 := by rw [hk]; decide +kernel
  unfold cokE at ok
  unfold cerE at er
  refine b_48_107 _ _ _ (by first | (exact hc_o (by first | assumption | (exact ⟨by decide, rfl⟩))) | assumption | (exact (hc_far (by omega)).trans (by assumption))) (by omega) ?_
  refine cr_node (d := e + 1) hG h (fun h8 y1 v hs hg hv hB => ?_) (fun h8 => ?_)
  · have hsp : ms_E g L (j + 1) false σ0 = ms_eb (ms_E g L j false (σ0.add.nx g L)) (fun _ σ1 => ms_eb (ms_E g L j false σ1) (fun _ σ2 => .ok ((), σ2.set σ0.n (13, 0, 0, 0, 0, (σ0.add.nx g L).n, σ1.n, 0, 0, 0)))) := ms_E_o hk40 hop (by omega)
    rw [hk] at hB
    generalize hσ1 : σ0.add.nx g L = σ1 at *
    have hn1 : σ1.n = σ0.n + 1 := by rw [← hσ1]; rfl
    have hr : crg (σ0.n + 1) σ1.n y1 σ1.tb := by rw [hn1]; exact crg.nil
    have hx := ix_of (w := σ0.n) (m := 800) (by omega) (by omega)
    have hle1 := hs.2.1.2
    refine b_48_111 _ _ _ ?_ ?_
    · intro z111
      refine b_48_158 _ _ _ ?_ ?_
      · intro z158
        refine b_48_181 _ _ _ ?_ ?_
        · intro z181
          refine b_48_208 _ _ _ ?_ ?_
          · intro z208
            first | (exact absurd z208 (by decide)) | (exact absurd (by decide) z208) | (exact absurd rfl z208) | (exact absurd z208 (of_nn (by omega))) | (exact absurd (of_np (by omega)) z208) | omega
          · intro z208
            refine b_48_214 _ _ _ ?_ ?_
            · intro z214
              first | (exact absurd z214 (by decide)) | (exact absurd (by decide) z214) | (exact absurd rfl z214) | (exact absurd z214 (of_nn (by omega))) | (exact absurd (of_np (by omega)) z214) | omega
            · intro z214
              refine b_48_218 _ _ _ (by first | (exact hc_o (by first | assumption | (exact ⟨by decide, rfl⟩))) | assumption | (exact (hc_far (by omega)).trans (by assumption))) (by omega) (by first | rfl | assumption) (by first | (exact hc_o (by first | assumption | (exact ⟨by decide, rfl⟩))) | assumption | (exact (hc_far (by omega)).trans (by assumption))) (by omega) (by first | rfl | assumption) (by first | (exact hc_o (by first | assumption | (exact ⟨by decide, rfl⟩))) | assumption | (exact (hc_far (by omega)).trans (by assumption))) (by omega) ?_
              rw [hl2]
              refine IH.1 (e + 8) _ _ _ (by omega) hs (fun y2 σ2 hok hs gg hrE e7 hlt => ?_) (fun w hw => ?_)
              · rw [hok, ms_eb_ok] at hsp
                have hB := hB.go gg (by omega)
                have hr := (hr.go gg (Nat.le_refl _)).join hrE (by omega)
                have hg := hg.trans gg
                have hle2 := hs.2.1.2
                have hge2 := gg.2.2.1.1
                refine b_48_234 _ _ _ _ _ _ (by first | (exact hc_ai (by omega) (by first | assumption | (exact (ht9 (by assumption)).2.1) | (exact (ht9 (by assumption)).2.2.1) | (exact (ht9 (by assumption)).2.2.2) | rfl) (by decide)) | assumption | (exact (hc_far (by omega)).trans (by assumption))) (by omega) (by first | assumption | (exact ix_of (by omega) (by omega)) | (exact ⟨by decide, rfl, by decide⟩)) ?_
                refine hw_W (hw_AI (by omega) (by first | assumption | (exact (ht9 (by assumption)).2.1) | (exact (ht9 (by assumption)).2.2.1) | (exact (ht9 (by assumption)).2.2.2) | rfl) (by decide)) ?_
                show mi_W _ _ _ _ _ (n, sl, hc (cw 1 σ0.n (Int32.ofNat σ1.n) y2) f0) _
                have hB := hB.w (k := 1) (v := Int32.ofNat σ1.n)
                have hs := hs.w (k := 1) (m := σ0.n) (v := Int32.ofNat σ1.n)
                have hg := hg.w (k := 1) (m := σ0.n) (v := Int32.ofNat σ1.n) (Nat.le_refl _)
                have hr := hr.w (k := 1) (m := σ0.n) (v := Int32.ofNat σ1.n) (Nat.lt_succ_self _)
                have e7 := (cw_ne (k := 1) (m := σ0.n) (v := Int32.ofNat σ1.n) (a := y2) (k' := 7) (m' := σ1.n) (fun z => by omega)).trans e7
                generalize cw 1 σ0.n (Int32.ofNat σ1.n) y2 = y2 at *
                refine b_48_278 _ _ _ ?_ ?_
                · intro z278
                  refine b_48_288 _ _ _ (by first | (exact hc_o (by first | assumption | (exact ⟨by decide, rfl⟩))) | assumption | (exact (hc_far (by omega)).trans (by assumption))) (by omega) (by first | rfl | assumption) (by first | (exact hc_o (by first | assumption | (exact ⟨by decide, rfl⟩))) | assumption | (exact (hc_far (by omega)).trans (by assumption))) (by omega) (by first | rfl | assumption) (by first | (exact hc_o (by first | assumption | (exact ⟨by decide, rfl⟩))) | assumption | (exact (hc_far (by omega)).trans (by assumption))) (by omega) ?_
                  rw [hl2]
                  refine IH.1 (e + 8) _ _ _ (by omega) hs (fun y3 σ3 hok hs gg hrE e7 hlt => ?_) (fun w hw => ?_)
                  · rw [hok, ms_eb_ok] at hsp
                    have hB := hB.go gg (by omega)
                    have hr := (hr.go gg (Nat.le_refl _)).join hrE (by omega)
                    have hg := hg.trans gg
                    have hle3 := hs.2.1.2
                    have hge3 := gg.2.2.1.1
                    refine b_48_304 _ _ _ _ _ _ (by first | (exact hc_ai (by omega) (by first | assumption | (exact (ht9 (by assumption)).2.1) | (exact (ht9 (by assumption)).2.2.1) | (exact (ht9 (by assumption)).2.2.2) | rfl) (by decide)) | assumption | (exact (hc_far (by omega)).trans (by assumption))) (by omega) (by first | assumption | (exact ix_of (by omega) (by omega)) | (exact ⟨by decide, rfl, by decide⟩)) ?_
                    refine hw_W (hw_AI (by omega) (by first | assumption | (exact (ht9 (by assumption)).2.1) | (exact (ht9 (by assumption)).2.2.1) | (exact (ht9 (by assumption)).2.2.2) | rfl) (by decide)) ?_
                    show mi_W _ _ _ _ _ (n, sl, hc (cw 3 σ0.n (Int32.ofNat σ2.n) y3) f0) _
                    have hB := hB.w (k := 3) (v := Int32.ofNat σ2.n)
                    have hs := hs.w (k := 3) (m := σ0.n) (v := Int32.ofNat σ2.n)
                    have hg := hg.w (k := 3) (m := σ0.n) (v := Int32.ofNat σ2.n) (Nat.le_refl _)
                    have hr := hr.w (k := 3) (m := σ0.n) (v := Int32.ofNat σ2.n) (Nat.lt_succ_self _)
                    have e7 := (cw_ne (k := 3) (m := σ0.n) (v := Int32.ofNat σ2.n) (a := y3) (k' := 7) (m' := σ2.n) (fun z => by omega)).trans e7
                    generalize cw 3 σ0.n (Int32.ofNat σ2.n) y3 = y3 at *
                    refine b_48_305 _ _ _ _ _ _ (by first | (exact hc_o (by first | assumption | (exact ⟨by decide, rfl⟩))) | assumption | (exact (hc_far (by omega)).trans (by assumption))) (by omega) (by first | rfl | assumption) (by first | (exact hc_o (by first | assumption | (exact ⟨by decide, rfl⟩))) | assumption | (exact (hc_far (by omega)).trans (by assumption))) (by omega) (by first | rfl | assumption) (by first | (exact hc_o (by first | assumption | (exact ⟨by decide, rfl⟩))) | assumption | (exact (hc_far (by omega)).trans (by assumption))) (by omega) (by first | rfl | assumption) (by first | (exact hc_o (by first | assumption | (exact ⟨by decide, rfl⟩))) | assumption | (exact (hc_far (by omega)).trans (by assumption))) (by omega) (by first | rfl | assumption) (by first | (exact hc_ai (by omega) (by first | assumption | (exact (ht9 (by assumption)).2.1) | (exact (ht9 (by assumption)).2.2.1) | (exact (ht9 (by assumption)).2.2.2) | rfl) (by decide)) | assumption | (exact (hc_far (by omega)).trans (by assumption))) (by omega) (by first | assumption | (exact ix_of (by omega) (by omega)) | (exact ⟨by decide, rfl, by decide⟩)) ?_
                    refine hw_Q (hw_AI (by omega) (by first | assumption | (exact (ht9 (by assumption)).2.1) | (exact (ht9 (by assumption)).2.2.1) | (exact (ht9 (by assumption)).2.2.2) | rfl) (by decide)) ?_
                    have h11 := hs.2.1.1
                    show Q (.inl (some (.int (Int32.ofNat σ0.n)))) (n, sl, hc (cw 7 σ0.n (y3.I 2 3 11) y3) f0)
                    rw [h11]
                    have hB := hB.w (k := 7) (v := Int32.ofNat σ3.n)
                    have hr := hr.w (k := 7) (m := σ0.n) (v := Int32.ofNat σ3.n) (Nat.lt_succ_self _)
                    have e7 := (cw_ne (k := 7) (m := σ0.n) (v := Int32.ofNat σ3.n) (a := y3) (k' := 7) (m' := σ2.n) (fun z => by omega)).trans e7
                    refine ok _ _ hsp (hs.w.set) ((hg.w (Nat.le_refl _)).set (Nat.le_refl _)) (hr.one ⟨fun k hk9 h7 => ?_, ?_, ?_⟩ ?_ (by omega)) (hB.1 7 (by omega)) (by show σ0.n < σ3.n; omega)
                    · rcases lt9 hk9 with rfl | rfl | rfl | rfl | rfl | rfl | rfl | rfl | rfl <;> first | exact absurd rfl h7 | exact hB.1 _ hk9
                    · refine hB.2.trans (hv.trans ?_)
                      rw [hk]
                      rfl
                    · exact (hB.1 7 (by omega)).trans (e7.symm.trans (if_neg (show ¬ σ2.n = 0 by omega)).symm)
                    · exact Or.inr ⟨show σ0.n < σ2.n by omega, show σ2.n < σ3.n by omega⟩
                  · exact cEr.kc (by decide +kernel) (by omega) ((er w (by rw [hsp, hw]; rfl)).go hg.1)
                · intro z278
                  first | (exact absurd z278 (by decide)) | (exact absurd (by decide) z278) | (exact absurd rfl z278) | (exact absurd z278 (of_nn (by omega))) | (exact absurd (of_np (by omega)) z278) | omega
              · exact cEr.kc (by decide +kernel) (by omega) ((er w (by rw [hsp, hw]; rfl)).go hg.1)
        · intro z181
          first | (exact absurd z181 (by decide)) | (exact absurd (by decide) z181) | (exact absurd rfl z181) | (exact absurd z181 (of_nn (by omega))) | (exact absurd (of_np (by omega)) z181) | omega
      · intro z158
        first | (exact absurd z158 (by decide)) | (exact absurd (by decide) z158) | (exact absurd rfl z158) | (exact absurd z158 (of_nn (by omega))) | (exact absurd (of_np (by omega)) z158) | omega
    · intro z111
      first | (exact absurd z111 (by decide)) | (exact absurd (by decide) z111) | (exact absurd rfl z111) | (exact absurd z111 (of_nn (by omega))) | (exact absurd (of_np (by omega)) z111) | omega
  · exact cEr.kc (by decide +kernel) (by omega) (er _ (ms_E_8 hk40 hop h8))
theorem ci_o14 {l2 : Int32} (hG : cG n sl f0) (hl2 : l2 + 1 = Int32.ofNat (101 - j)) (hj : j + 10 ≤ e + 9) (IH : cIE n sl f0 g L j) (h : cst a0 g L σ0) (hk : σ0.t.k = 29) (ok : cokE n sl f0 g L Q a0 σ0 (ms_E g L (j + 1) false σ0)) (er : cerE n sl f0 Q a0 (ms_E g L (j + 1) false σ0)) : mi_W (e + 9) 48 107 [some (.ref 15), some (.int l2), some (.int 29), some (.int 1), none] [] (n, sl, hc a0 f0) Q := by
  have hn := hG.1
  have hk40 : ¬ σ0.t.k = ms_kc 40 := by rw [hk]; decide
  have hop : ms_op false σ0.t.k = some 14 := by rw [hk]; decide +kernel
  unfold cokE at ok
  unfold cerE at er
  refine b_48_107 _ _ _ (by first | (exact hc_o (by first | assumption | (exact ⟨by decide, rfl⟩))) | assumption | (exact (hc_far (by omega)).trans (by assumption))) (by omega) ?_
  refine cr_node (d := e + 1) hG h (fun h8 y1 v hs hg hv hB => ?_) (fun h8 => ?_)
  · have hsp : ms_E g L (j + 1) false σ0 = ms_eb (ms_E g L j false (σ0.add.nx g L)) (fun _ σ1 => ms_eb (ms_E g L j false σ1) (fun _ σ2 => .ok ((), σ2.set σ0.n (14, 0, 0, 0, 0, (σ0.add.nx g L).n, σ1.n, 0, 0, 0)))) := ms_E_o hk40 hop (by omega)
    rw [hk] at hB
    generalize hσ1 : σ0.add.nx g L = σ1 at *
    have hn1 : σ1.n = σ0.n + 1 := by rw [← hσ1]; rfl
    have hr : crg (σ0.n + 1) σ1.n y1 σ1.tb := by rw [hn1]; exact crg.nil
    have hx := ix_of (w := σ0.n) (m := 800) (by omega) (by omega)
    have hle1 := hs.2.1.2
    refine b_48_111 _ _ _ ?_ ?_
    · intro z111
      refine b_48_158 _ _ _ ?_ ?_
      · intro z158
        refine b_48_181 _ _ _ ?_ ?_
        · intro z181
          refine b_48_208 _ _ _ ?_ ?_
          · intro z208
            first | (exact absurd z208 (by decide)) | (exact absurd (by decide) z208) | (exact absurd rfl z208) | (exact absurd z208 (of_nn (by omega))) | (exact absurd (of_np (by omega)) z208) | omega
          · intro z208
            refine b_48_214 _ _ _ ?_ ?_
            · intro z214
              first | (exact absurd z214 (by decide)) | (exact absurd (by decide) z214) | (exact absurd rfl z214) | (exact absurd z214 (of_nn (by omega))) | (exact absurd (of_np (by omega)) z214) | omega
            · intro z214
              refine b_48_218 _ _ _ (by first | (exact hc_o (by first | assumption | (exact ⟨by decide, rfl⟩))) | assumption | (exact (hc_far (by omega)).trans (by assumption))) (by omega) (by first | rfl | assumption) (by first | (exact hc_o (by first | assumption | (exact ⟨by decide, rfl⟩))) | assumption | (exact (hc_far (by omega)).trans (by assumption))) (by omega) (by first | rfl | assumption) (by first | (exact hc_o (by first | assumption | (exact ⟨by decide, rfl⟩))) | assumption | (exact (hc_far (by omega)).trans (by assumption))) (by omega) ?_
              rw [hl2]
              refine IH.1 (e + 8) _ _ _ (by omega) hs (fun y2 σ2 hok hs gg hrE e7 hlt => ?_) (fun w hw => ?_)
              · rw [hok, ms_eb_ok] at hsp
                have hB := hB.go gg (by omega)
                have hr := (hr.go gg (Nat.le_refl _)).join hrE (by omega)
                have hg := hg.trans gg
                have hle2 := hs.2.1.2
                have hge2 := gg.2.2.1.1
                refine b_48_234 _ _ _ _ _ _ (by first | (exact hc_ai (by omega) (by first | assumption | (exact (ht9 (by assumption)).2.1) | (exact (ht9 (by assumption)).2.2.1) | (exact (ht9 (by assumption)).2.2.2) | rfl) (by decide)) | assumption | (exact (hc_far (by omega)).trans (by assumption))) (by omega) (by first | assumption | (exact ix_of (by omega) (by omega)) | (exact ⟨by decide, rfl, by decide⟩)) ?_
                refine hw_W (hw_AI (by omega) (by first | assumption | (exact (ht9 (by assumption)).2.1) | (exact (ht9 (by assumption)).2.2.1) | (exact (ht9 (by assumption)).2.2.2) | rfl) (by decide)) ?_
                show mi_W _ _ _ _ _ (n, sl, hc (cw 1 σ0.n (Int32.ofNat σ1.n) y2) f0) _
                have hB := hB.w (k := 1) (v := Int32.ofNat σ1.n)
                have hs := hs.w (k := 1) (m := σ0.n) (v := Int32.ofNat σ1.n)
                have hg := hg.w (k := 1) (m := σ0.n) (v := Int32.ofNat σ1.n) (Nat.le_refl _)
                have hr := hr.w (k := 1) (m := σ0.n) (v := Int32.ofNat σ1.n) (Nat.lt_succ_self _)
                have e7 := (cw_ne (k := 1) (m := σ0.n) (v := Int32.ofNat σ1.n) (a := y2) (k' := 7) (m' := σ1.n) (fun z => by omega)).trans e7
                generalize cw 1 σ0.n (Int32.ofNat σ1.n) y2 = y2 at *
                refine b_48_278 _ _ _ ?_ ?_
                · intro z278
                  refine b_48_288 _ _ _ (by first | (exact hc_o (by first | assumption | (exact ⟨by decide, rfl⟩))) | assumption | (exact (hc_far (by omega)).trans (by assumption))) (by omega) (by first | rfl | assumption) (by first | (exact hc_o (by first | assumption | (exact ⟨by decide, rfl⟩))) | assumption | (exact (hc_far (by omega)).trans (by assumption))) (by omega) (by first | rfl | assumption) (by first | (exact hc_o (by first | assumption | (exact ⟨by decide, rfl⟩))) | assumption | (exact (hc_far (by omega)).trans (by assumption))) (by omega) ?_
                  rw [hl2]
                  refine IH.1 (e + 8) _ _ _ (by omega) hs (fun y3 σ3 hok hs gg hrE e7 hlt => ?_) (fun w hw => ?_)
                  · rw [hok, ms_eb_ok] at hsp
                    have hB := hB.go gg (by omega)
                    have hr := (hr.go gg (Nat.le_refl _)).join hrE (by omega)
                    have hg := hg.trans gg
                    have hle3 := hs.2.1.2
                    have hge3 := gg.2.2.1.1
                    refine b_48_304 _ _ _ _ _ _ (by first | (exact hc_ai (by omega) (by first | assumption | (exact (ht9 (by assumption)).2.1) | (exact (ht9 (by assumption)).2.2.1) | (exact (ht9 (by assumption)).2.2.2) | rfl) (by decide)) | assumption | (exact (hc_far (by omega)).trans (by assumption))) (by omega) (by first | assumption | (exact ix_of (by omega) (by omega)) | (exact ⟨by decide, rfl, by decide⟩)) ?_
                    refine hw_W (hw_AI (by omega) (by first | assumption | (exact (ht9 (by assumption)).2.1) | (exact (ht9 (by assumption)).2.2.1) | (exact (ht9 (by assumption)).2.2.2) | rfl) (by decide)) ?_
                    show mi_W _ _ _ _ _ (n, sl, hc (cw 3 σ0.n (Int32.ofNat σ2.n) y3) f0) _
                    have hB := hB.w (k := 3) (v := Int32.ofNat σ2.n)
                    have hs := hs.w (k := 3) (m := σ0.n) (v := Int32.ofNat σ2.n)
                    have hg := hg.w (k := 3) (m := σ0.n) (v := Int32.ofNat σ2.n) (Nat.le_refl _)
                    have hr := hr.w (k := 3) (m := σ0.n) (v := Int32.ofNat σ2.n) (Nat.lt_succ_self _)
                    have e7 := (cw_ne (k := 3) (m := σ0.n) (v := Int32.ofNat σ2.n) (a := y3) (k' := 7) (m' := σ2.n) (fun z => by omega)).trans e7
                    generalize cw 3 σ0.n (Int32.ofNat σ2.n) y3 = y3 at *
                    refine b_48_305 _ _ _ _ _ _ (by first | (exact hc_o (by first | assumption | (exact ⟨by decide, rfl⟩))) | assumption | (exact (hc_far (by omega)).trans (by assumption))) (by omega) (by first | rfl | assumption) (by first | (exact hc_o (by first | assumption | (exact ⟨by decide, rfl⟩))) | assumption | (exact (hc_far (by omega)).trans (by assumption))) (by omega) (by first | rfl | assumption) (by first | (exact hc_o (by first | assumption | (exact ⟨by decide, rfl⟩))) | assumption | (exact (hc_far (by omega)).trans (by assumption))) (by omega) (by first | rfl | assumption) (by first | (exact hc_o (by first | assumption | (exact ⟨by decide, rfl⟩))) | assumption | (exact (hc_far (by omega)).trans (by assumption))) (by omega) (by first | rfl | assumption) (by first | (exact hc_ai (by omega) (by first | assumption | (exact (ht9 (by assumption)).2.1) | (exact (ht9 (by assumption)).2.2.1) | (exact (ht9 (by assumption)).2.2.2) | rfl) (by decide)) | assumption | (exact (hc_far (by omega)).trans (by assumption))) (by omega) (by first | assumption | (exact ix_of (by omega) (by omega)) | (exact ⟨by decide, rfl, by decide⟩)) ?_
                    refine hw_Q (hw_AI (by omega) (by first | assumption | (exact (ht9 (by assumption)).2.1) | (exact (ht9 (by assumption)).2.2.1) | (exact (ht9 (by assumption)).2.2.2) | rfl) (by decide)) ?_
                    have h11 := hs.2.1.1
                    show Q (.inl (some (.int (Int32.ofNat σ0.n)))) (n, sl, hc (cw 7 σ0.n (y3.I 2 3 11) y3) f0)
                    rw [h11]
                    have hB := hB.w (k := 7) (v := Int32.ofNat σ3.n)
                    have hr := hr.w (k := 7) (m := σ0.n) (v := Int32.ofNat σ3.n) (Nat.lt_succ_self _)
                    have e7 := (cw_ne (k := 7) (m := σ0.n) (v := Int32.ofNat σ3.n) (a := y3) (k' := 7) (m' := σ2.n) (fun z => by omega)).trans e7
                    refine ok _ _ hsp (hs.w.set) ((hg.w (Nat.le_refl _)).set (Nat.le_refl _)) (hr.one ⟨fun k hk9 h7 => ?_, ?_, ?_⟩ ?_ (by omega)) (hB.1 7 (by omega)) (by show σ0.n < σ3.n; omega)
                    · rcases lt9 hk9 with rfl | rfl | rfl | rfl | rfl | rfl | rfl | rfl | rfl <;> first | exact absurd rfl h7 | exact hB.1 _ hk9
                    · refine hB.2.trans (hv.trans ?_)
                      rw [hk]
                      rfl
                    · exact (hB.1 7 (by omega)).trans (e7.symm.trans (if_neg (show ¬ σ2.n = 0 by omega)).symm)
                    · exact Or.inr ⟨show σ0.n < σ2.n by omega, show σ2.n < σ3.n by omega⟩
                  · exact cEr.kc (by decide +kernel) (by omega) ((er w (by rw [hsp, hw]; rfl)).go hg.1)
                · intro z278
                  first | (exact absurd z278 (by decide)) | (exact absurd (by decide) z278) | (exact absurd rfl z278) | (exact absurd z278 (of_nn (by omega))) | (exact absurd (of_np (by omega)) z278) | omega
              · exact cEr.kc (by decide +kernel) (by omega) ((er w (by rw [hsp, hw]; rfl)).go hg.1)
        · intro z181
          first | (exact absurd z181 (by decide)) | (exact absurd (by decide) z181) | (exact absurd rfl z181) | (exact absurd z181 (of_nn (by omega))) | (exact absurd (of_np (by omega)) z181) | omega
      · intro z158
        first | (exact absurd z158 (by decide)) | (exact absurd (by decide) z158) | (exact absurd rfl z158) | (exact absurd z158 (of_nn (by omega))) | (exact absurd (of_np (by omega)) z158) | omega
    · intro z111
      first | (exact absurd z111 (by decide)) | (exact absurd (by decide) z111) | (exact absurd rfl z111) | (exact absurd z111 (of_nn (by omega))) | (exact absurd (of_np (by omega)) z111) | omega
  · exact cEr.kc (by decide +kernel) (by omega) (er _ (ms_E_8 hk40 hop h8))
theorem ci_o15 {l2 : Int32} (hG : cG n sl f0) (hl2 : l2 + 1 = Int32.ofNat (101 - j)) (hj : j + 10 ≤ e + 9) (IH : cIE n sl f0 g L j) (h : cst a0 g L σ0) (hk : σ0.t.k = 30) (ok : cokE n sl f0 g L Q a0 σ0 (ms_E g L (j + 1) false σ0)) (er : cerE n sl f0 Q a0 (ms_E g L (j + 1) false σ0)) : mi_W (e + 9) 48 107 [some (.ref 15), some (.int l2), some (.int 30), some (.int 1), none] [] (n, sl, hc a0 f0) Q := by
  have hn := hG.1
  have hk40 : ¬ σ0.t.k = ms_kc 40 := by rw [hk]; decide
  have hop : ms_op false σ0.t.k = some 15 := by rw [hk]; decide +kernel
  unfold cokE at ok
  unfold cerE at er
  refine b_48_107 _ _ _ (by first | (exact hc_o (by first | assumption | (exact ⟨by decide, rfl⟩))) | assumption | (exact (hc_far (by omega)).trans (by assumption))) (by omega) ?_
  refine cr_node (d := e + 1) hG h (fun h8 y1 v hs hg hv hB => ?_) (fun h8 => ?_)
  · have hsp : ms_E g L (j + 1) false σ0 = ms_eb (ms_E g L j false (σ0.add.nx g L)) (fun _ σ1 => ms_eb (ms_E g L j false σ1) (fun _ σ2 => .ok ((), σ2.set σ0.n (15, 0, 0, 0, 0, (σ0.add.nx g L).n, σ1.n, 0, 0, 0)))) := ms_E_o hk40 hop (by omega)
    rw [hk] at hB
    generalize hσ1 : σ0.add.nx g L = σ1 at *
    have hn1 : σ1.n = σ0.n + 1 := by rw [← hσ1]; rfl
    have hr : crg (σ0.n + 1) σ1.n y1 σ1.tb := by rw [hn1]; exact crg.nil
    have hx := ix_of (w := σ0.n) (m := 800) (by omega) (by omega)
    have hle1 := hs.2.1.2
    refine b_48_111 _ _ _ ?_ ?_
    · intro z111
      refine b_48_158 _ _ _ ?_ ?_
      · intro z158
        refine b_48_181 _ _ _ ?_ ?_
        · intro z181
          refine b_48_208 _ _ _ ?_ ?_
          · intro z208
            first | (exact absurd z208 (by decide)) | (exact absurd (by decide) z208) | (exact absurd rfl z208) | (exact absurd z208 (of_nn (by omega))) | (exact absurd (of_np (by omega)) z208) | omega
          · intro z208
            refine b_48_214 _ _ _ ?_ ?_
            · intro z214
              first | (exact absurd z214 (by decide)) | (exact absurd (by decide) z214) | (exact absurd rfl z214) | (exact absurd z214 (of_nn (by omega))) | (exact absurd (of_np (by omega)) z214) | omega
            · intro z214
              refine b_48_218 _ _ _ (by first | (exact hc_o (by first | assumption | (exact ⟨by decide, rfl⟩))) | assumption | (exact (hc_far (by omega)).trans (by assumption))) (by omega) (by first | rfl | assumption) (by first | (exact hc_o (by first | assumption | (exact ⟨by decide, rfl⟩))) | assumption | (exact (hc_far (by omega)).trans (by assumption))) (by omega) (by first | rfl | assumption) (by first | (exact hc_o (by first | assumption | (exact ⟨by decide, rfl⟩))) | assumption | (exact (hc_far (by omega)).trans (by assumption))) (by omega) ?_
              rw [hl2]
              refine IH.1 (e + 8) _ _ _ (by omega) hs (fun y2 σ2 hok hs gg hrE e7 hlt => ?_) (fun w hw => ?_)
              · rw [hok, ms_eb_ok] at hsp
                have hB := hB.go gg (by omega)
                have hr := (hr.go gg (Nat.le_refl _)).join hrE (by omega)
                have hg := hg.trans gg
                have hle2 := hs.2.1.2
                have hge2 := gg.2.2.1.1
                refine b_48_234 _ _ _ _ _ _ (by first | (exact hc_ai (by omega) (by first | assumption | (exact (ht9 (by assumption)).2.1) | (exact (ht9 (by assumption)).2.2.1) | (exact (ht9 (by assumption)).2.2.2) | rfl) (by decide)) | assumption | (exact (hc_far (by omega)).trans (by assumption))) (by omega) (by first | assumption | (exact ix_of (by omega) (by omega)) | (exact ⟨by decide, rfl, by decide⟩)) ?_
                refine hw_W (hw_AI (by omega) (by first | assumption | (exact (ht9 (by assumption)).2.1) | (exact (ht9 (by assumption)).2.2.1) | (exact (ht9 (by assumption)).2.2.2) | rfl) (by decide)) ?_
                show mi_W _ _ _ _ _ (n, sl, hc (cw 1 σ0.n (Int32.ofNat σ1.n) y2) f0) _
                have hB := hB.w (k := 1) (v := Int32.ofNat σ1.n)
                have hs := hs.w (k := 1) (m := σ0.n) (v := Int32.ofNat σ1.n)
                have hg := hg.w (k := 1) (m := σ0.n) (v := Int32.ofNat σ1.n) (Nat.le_refl _)
                have hr := hr.w (k := 1) (m := σ0.n) (v := Int32.ofNat σ1.n) (Nat.lt_succ_self _)
                have e7 := (cw_ne (k := 1) (m := σ0.n) (v := Int32.ofNat σ1.n) (a := y2) (k' := 7) (m' := σ1.n) (fun z => by omega)).trans e7
                generalize cw 1 σ0.n (Int32.ofNat σ1.n) y2 = y2 at *
                refine b_48_278 _ _ _ ?_ ?_
                · intro z278
                  refine b_48_288 _ _ _ (by first | (exact hc_o (by first | assumption | (exact ⟨by decide, rfl⟩))) | assumption | (exact (hc_far (by omega)).trans (by assumption))) (by omega) (by first | rfl | assumption) (by first | (exact hc_o (by first | assumption | (exact ⟨by decide, rfl⟩))) | assumption | (exact (hc_far (by omega)).trans (by assumption))) (by omega) (by first | rfl | assumption) (by first | (exact hc_o (by first | assumption | (exact ⟨by decide, rfl⟩))) | assumption | (exact (hc_far (by omega)).trans (by assumption))) (by omega) ?_
                  rw [hl2]
                  refine IH.1 (e + 8) _ _ _ (by omega) hs (fun y3 σ3 hok hs gg hrE e7 hlt => ?_) (fun w hw => ?_)
                  · rw [hok, ms_eb_ok] at hsp
                    have hB := hB.go gg (by omega)
                    have hr := (hr.go gg (Nat.le_refl _)).join hrE (by omega)
                    have hg := hg.trans gg
                    have hle3 := hs.2.1.2
                    have hge3 := gg.2.2.1.1
                    refine b_48_304 _ _ _ _ _ _ (by first | (exact hc_ai (by omega) (by first | assumption | (exact (ht9 (by assumption)).2.1) | (exact (ht9 (by assumption)).2.2.1) | (exact (ht9 (by assumption)).2.2.2) | rfl) (by decide)) | assumption | (exact (hc_far (by omega)).trans (by assumption))) (by omega) (by first | assumption | (exact ix_of (by omega) (by omega)) | (exact ⟨by decide, rfl, by decide⟩)) ?_
                    refine hw_W (hw_AI (by omega) (by first | assumption | (exact (ht9 (by assumption)).2.1) | (exact (ht9 (by assumption)).2.2.1) | (exact (ht9 (by assumption)).2.2.2) | rfl) (by decide)) ?_
                    show mi_W _ _ _ _ _ (n, sl, hc (cw 3 σ0.n (Int32.ofNat σ2.n) y3) f0) _
                    have hB := hB.w (k := 3) (v := Int32.ofNat σ2.n)
                    have hs := hs.w (k := 3) (m := σ0.n) (v := Int32.ofNat σ2.n)
                    have hg := hg.w (k := 3) (m := σ0.n) (v := Int32.ofNat σ2.n) (Nat.le_refl _)
                    have hr := hr.w (k := 3) (m := σ0.n) (v := Int32.ofNat σ2.n) (Nat.lt_succ_self _)
                    have e7 := (cw_ne (k := 3) (m := σ0.n) (v := Int32.ofNat σ2.n) (a := y3) (k' := 7) (m' := σ2.n) (fun z => by omega)).trans e7
                    generalize cw 3 σ0.n (Int32.ofNat σ2.n) y3 = y3 at *
                    refine b_48_305 _ _ _ _ _ _ (by first | (exact hc_o (by first | assumption | (exact ⟨by decide, rfl⟩))) | assumption | (exact (hc_far (by omega)).trans (by assumption))) (by omega) (by first | rfl | assumption) (by first | (exact hc_o (by first | assumption | (exact ⟨by decide, rfl⟩))) | assumption | (exact (hc_far (by omega)).trans (by assumption))) (by omega) (by first | rfl | assumption) (by first | (exact hc_o (by first | assumption | (exact ⟨by decide, rfl⟩))) | assumption | (exact (hc_far (by omega)).trans (by assumption))) (by omega) (by first | rfl | assumption) (by first | (exact hc_o (by first | assumption | (exact ⟨by decide, rfl⟩))) | assumption | (exact (hc_far (by omega)).trans (by assumption))) (by omega) (by first | rfl | assumption) (by first | (exact hc_ai (by omega) (by first | assumption | (exact (ht9 (by assumption)).2.1) | (exact (ht9 (by assumption)).2.2.1) | (exact (ht9 (by assumption)).2.2.2) | rfl) (by decide)) | assumption | (exact (hc_far (by omega)).trans (by assumption))) (by omega) (by first | assumption | (exact ix_of (by omega) (by omega)) | (exact ⟨by decide, rfl, by decide⟩)) ?_
                    refine hw_Q (hw_AI (by omega) (by first | assumption | (exact (ht9 (by assumption)).2.1) | (exact (ht9 (by assumption)).2.2.1) | (exact (ht9 (by assumption)).2.2.2) | rfl) (by decide)) ?_
                    have h11 := hs.2.1.1
                    show Q (.inl (some (.int (Int32.ofNat σ0.n)))) (n, sl, hc (cw 7 σ0.n (y3.I 2 3 11) y3) f0)
                    rw [h11]
                    have hB := hB.w (k := 7) (v := Int32.ofNat σ3.n)
                    have hr := hr.w (k := 7) (m := σ0.n) (v := Int32.ofNat σ3.n) (Nat.lt_succ_self _)
                    have e7 := (cw_ne (k := 7) (m := σ0.n) (v := Int32.ofNat σ3.n) (a := y3) (k' := 7) (m' := σ2.n) (fun z => by omega)).trans e7
                    refine ok _ _ hsp (hs.w.set) ((hg.w (Nat.le_refl _)).set (Nat.le_refl _)) (hr.one ⟨fun k hk9 h7 => ?_, ?_, ?_⟩ ?_ (by omega)) (hB.1 7 (by omega)) (by show σ0.n < σ3.n; omega)
                    · rcases lt9 hk9 with rfl | rfl | rfl | rfl | rfl | rfl | rfl | rfl | rfl <;> first | exact absurd rfl h7 | exact hB.1 _ hk9
                    · refine hB.2.trans (hv.trans ?_)
                      rw [hk]
                      rfl
                    · exact (hB.1 7 (by omega)).trans (e7.symm.trans (if_neg (show ¬ σ2.n = 0 by omega)).symm)
                    · exact Or.inr ⟨show σ0.n < σ2.n by omega, show σ2.n < σ3.n by omega⟩
                  · exact cEr.kc (by decide +kernel) (by omega) ((er w (by rw [hsp, hw]; rfl)).go hg.1)
                · intro z278
                  first | (exact absurd z278 (by decide)) | (exact absurd (by decide) z278) | (exact absurd rfl z278) | (exact absurd z278 (of_nn (by omega))) | (exact absurd (of_np (by omega)) z278) | omega
              · exact cEr.kc (by decide +kernel) (by omega) ((er w (by rw [hsp, hw]; rfl)).go hg.1)
        · intro z181
          first | (exact absurd z181 (by decide)) | (exact absurd (by decide) z181) | (exact absurd rfl z181) | (exact absurd z181 (of_nn (by omega))) | (exact absurd (of_np (by omega)) z181) | omega
      · intro z158
        first | (exact absurd z158 (by decide)) | (exact absurd (by decide) z158) | (exact absurd rfl z158) | (exact absurd z158 (of_nn (by omega))) | (exact absurd (of_np (by omega)) z158) | omega
    · intro z111
      first | (exact absurd z111 (by decide)) | (exact absurd (by decide) z111) | (exact absurd rfl z111) | (exact absurd z111 (of_nn (by omega))) | (exact absurd (of_np (by omega)) z111) | omega
  · exact cEr.kc (by decide +kernel) (by omega) (er _ (ms_E_8 hk40 hop h8))
theorem ci_o16 {l2 : Int32} (hG : cG n sl f0) (hl2 : l2 + 1 = Int32.ofNat (101 - j)) (hj : j + 10 ≤ e + 9) (IH : cIE n sl f0 g L j) (h : cst a0 g L σ0) (hk : σ0.t.k = 31) (ok : cokE n sl f0 g L Q a0 σ0 (ms_E g L (j + 1) false σ0)) (er : cerE n sl f0 Q a0 (ms_E g L (j + 1) false σ0)) : mi_W (e + 9) 48 107 [some (.ref 15), some (.int l2), some (.int 31), some (.int 1), none] [] (n, sl, hc a0 f0) Q := by
  have hn := hG.1
  have hk40 : ¬ σ0.t.k = ms_kc 40 := by rw [hk]; decide
  have hop : ms_op false σ0.t.k = some 16 := by rw [hk]; decide +kernel
  unfold cokE at ok
  unfold cerE at er
  refine b_48_107 _ _ _ (by first | (exact hc_o (by first | assumption | (exact ⟨by decide, rfl⟩))) | assumption | (exact (hc_far (by omega)).trans (by assumption))) (by omega) ?_
  refine cr_node (d := e + 1) hG h (fun h8 y1 v hs hg hv hB => ?_) (fun h8 => ?_)
  · have hsp : ms_E g L (j + 1) false σ0 = ms_eb (ms_E g L j false (σ0.add.nx g L)) (fun _ σ1 => ms_eb (ms_E g L j false σ1) (fun _ σ2 => .ok ((), σ2.set σ0.n (16, 0, 0, 0, 0, (σ0.add.nx g L).n, σ1.n, 0, 0, 0)))) := ms_E_o hk40 hop (by omega)
    rw [hk] at hB
    generalize hσ1 : σ0.add.nx g L = σ1 at *
    have hn1 : σ1.n = σ0.n + 1 := by rw [← hσ1]; rfl
    have hr : crg (σ0.n + 1) σ1.n y1 σ1.tb := by rw [hn1]; exact crg.nil
    have hx := ix_of (w := σ0.n) (m := 800) (by omega) (by omega)
    have hle1 := hs.2.1.2
    refine b_48_111 _ _ _ ?_ ?_
    · intro z111
      refine b_48_158 _ _ _ ?_ ?_
      · intro z158
        refine b_48_181 _ _ _ ?_ ?_
        · intro z181
          refine b_48_208 _ _ _ ?_ ?_
          · intro z208
            first | (exact absurd z208 (by decide)) | (exact absurd (by decide) z208) | (exact absurd rfl z208) | (exact absurd z208 (of_nn (by omega))) | (exact absurd (of_np (by omega)) z208) | omega
          · intro z208
            refine b_48_214 _ _ _ ?_ ?_
            · intro z214
              first | (exact absurd z214 (by decide)) | (exact absurd (by decide) z214) | (exact absurd rfl z214) | (exact absurd z214 (of_nn (by omega))) | (exact absurd (of_np (by omega)) z214) | omega
            · intro z214
              refine b_48_218 _ _ _ (by first | (exact hc_o (by first | assumption | (exact ⟨by decide, rfl⟩))) | assumption | (exact (hc_far (by omega)).trans (by assumption))) (by omega) (by first | rfl | assumption) (by first | (exact hc_o (by first | assumption | (exact ⟨by decide, rfl⟩))) | assumption | (exact (hc_far (by omega)).trans (by assumption))) (by omega) (by first | rfl | assumption) (by first | (exact hc_o (by first | assumption | (exact ⟨by decide, rfl⟩))) | assumption | (exact (hc_far (by omega)).trans (by assumption))) (by omega) ?_
              rw [hl2]
              refine IH.1 (e + 8) _ _ _ (by omega) hs (fun y2 σ2 hok hs gg hrE e7 hlt => ?_) (fun w hw => ?_)
              · rw [hok, ms_eb_ok] at hsp
                have hB := hB.go gg (by omega)
                have hr := (hr.go gg (Nat.le_refl _)).join hrE (by omega)
                have hg := hg.trans gg
                have hle2 := hs.2.1.2
                have hge2 := gg.2.2.1.1
                refine b_48_234 _ _ _ _ _ _ (by first | (exact hc_ai (by omega) (by first | assumption | (exact (ht9 (by assumption)).2.1) | (exact (ht9 (by assumption)).2.2.1) | (exact (ht9 (by assumption)).2.2.2) | rfl) (by decide)) | assumption | (exact (hc_far (by omega)).trans (by assumption))) (by omega) (by first | assumption | (exact ix_of (by omega) (by omega)) | (exact ⟨by decide, rfl, by decide⟩)) ?_
                refine hw_W (hw_AI (by omega) (by first | assumption | (exact (ht9 (by assumption)).2.1) | (exact (ht9 (by assumption)).2.2.1) | (exact (ht9 (by assumption)).2.2.2) | rfl) (by decide)) ?_
                show mi_W _ _ _ _ _ (n, sl, hc (cw 1 σ0.n (Int32.ofNat σ1.n) y2) f0) _
                have hB := hB.w (k := 1) (v := Int32.ofNat σ1.n)
                have hs := hs.w (k := 1) (m := σ0.n) (v := Int32.ofNat σ1.n)
                have hg := hg.w (k := 1) (m := σ0.n) (v := Int32.ofNat σ1.n) (Nat.le_refl _)
                have hr := hr.w (k := 1) (m := σ0.n) (v := Int32.ofNat σ1.n) (Nat.lt_succ_self _)
                have e7 := (cw_ne (k := 1) (m := σ0.n) (v := Int32.ofNat σ1.n) (a := y2) (k' := 7) (m' := σ1.n) (fun z => by omega)).trans e7
                generalize cw 1 σ0.n (Int32.ofNat σ1.n) y2 = y2 at *
                refine b_48_278 _ _ _ ?_ ?_
                · intro z278
                  refine b_48_288 _ _ _ (by first | (exact hc_o (by first | assumption | (exact ⟨by decide, rfl⟩))) | assumption | (exact (hc_far (by omega)).trans (by assumption))) (by omega) (by first | rfl | assumption) (by first | (exact hc_o (by first | assumption | (exact ⟨by decide, rfl⟩))) | assumption | (exact (hc_far (by omega)).trans (by assumption))) (by omega) (by first | rfl | assumption) (by first | (exact hc_o (by first | assumption | (exact ⟨by decide, rfl⟩))) | assumption | (exact (hc_far (by omega)).trans (by assumption))) (by omega) ?_
                  rw [hl2]
                  refine IH.1 (e + 8) _ _ _ (by omega) hs (fun y3 σ3 hok hs gg hrE e7 hlt => ?_) (fun w hw => ?_)
                  · rw [hok, ms_eb_ok] at hsp
                    have hB := hB.go gg (by omega)
                    have hr := (hr.go gg (Nat.le_refl _)).join hrE (by omega)
                    have hg := hg.trans gg
                    have hle3 := hs.2.1.2
                    have hge3 := gg.2.2.1.1
                    refine b_48_304 _ _ _ _ _ _ (by first | (exact hc_ai (by omega) (by first | assumption | (exact (ht9 (by assumption)).2.1) | (exact (ht9 (by assumption)).2.2.1) | (exact (ht9 (by assumption)).2.2.2) | rfl) (by decide)) | assumption | (exact (hc_far (by omega)).trans (by assumption))) (by omega) (by first | assumption | (exact ix_of (by omega) (by omega)) | (exact ⟨by decide, rfl, by decide⟩)) ?_
                    refine hw_W (hw_AI (by omega) (by first | assumption | (exact (ht9 (by assumption)).2.1) | (exact (ht9 (by assumption)).2.2.1) | (exact (ht9 (by assumption)).2.2.2) | rfl) (by decide)) ?_
                    show mi_W _ _ _ _ _ (n, sl, hc (cw 3 σ0.n (Int32.ofNat σ2.n) y3) f0) _
                    have hB := hB.w (k := 3) (v := Int32.ofNat σ2.n)
                    have hs := hs.w (k := 3) (m := σ0.n) (v := Int32.ofNat σ2.n)
                    have hg := hg.w (k := 3) (m := σ0.n) (v := Int32.ofNat σ2.n) (Nat.le_refl _)
                    have hr := hr.w (k := 3) (m := σ0.n) (v := Int32.ofNat σ2.n) (Nat.lt_succ_self _)
                    have e7 := (cw_ne (k := 3) (m := σ0.n) (v := Int32.ofNat σ2.n) (a := y3) (k' := 7) (m' := σ2.n) (fun z => by omega)).trans e7
                    generalize cw 3 σ0.n (Int32.ofNat σ2.n) y3 = y3 at *
                    refine b_48_305 _ _ _ _ _ _ (by first | (exact hc_o (by first | assumption | (exact ⟨by decide, rfl⟩))) | assumption | (exact (hc_far (by omega)).trans (by assumption))) (by omega) (by first | rfl | assumption) (by first | (exact hc_o (by first | assumption | (exact ⟨by decide, rfl⟩))) | assumption | (exact (hc_far (by omega)).trans (by assumption))) (by omega) (by first | rfl | assumption) (by first | (exact hc_o (by first | assumption | (exact ⟨by decide, rfl⟩))) | assumption | (exact (hc_far (by omega)).trans (by assumption))) (by omega) (by first | rfl | assumption) (by first | (exact hc_o (by first | assumption | (exact ⟨by decide, rfl⟩))) | assumption | (exact (hc_far (by omega)).trans (by assumption))) (by omega) (by first | rfl | assumption) (by first | (exact hc_ai (by omega) (by first | assumption | (exact (ht9 (by assumption)).2.1) | (exact (ht9 (by assumption)).2.2.1) | (exact (ht9 (by assumption)).2.2.2) | rfl) (by decide)) | assumption | (exact (hc_far (by omega)).trans (by assumption))) (by omega) (by first | assumption | (exact ix_of (by omega) (by omega)) | (exact ⟨by decide, rfl, by decide⟩)) ?_
                    refine hw_Q (hw_AI (by omega) (by first | assumption | (exact (ht9 (by assumption)).2.1) | (exact (ht9 (by assumption)).2.2.1) | (exact (ht9 (by assumption)).2.2.2) | rfl) (by decide)) ?_
                    have h11 := hs.2.1.1
                    show Q (.inl (some (.int (Int32.ofNat σ0.n)))) (n, sl, hc (cw 7 σ0.n (y3.I 2 3 11) y3) f0)
                    rw [h11]
                    have hB := hB.w (k := 7) (v := Int32.ofNat σ3.n)
                    have hr := hr.w (k := 7) (m := σ0.n) (v := Int32.ofNat σ3.n) (Nat.lt_succ_self _)
                    have e7 := (cw_ne (k := 7) (m := σ0.n) (v := Int32.ofNat σ3.n) (a := y3) (k' := 7) (m' := σ2.n) (fun z => by omega)).trans e7
                    refine ok _ _ hsp (hs.w.set) ((hg.w (Nat.le_refl _)).set (Nat.le_refl _)) (hr.one ⟨fun k hk9 h7 => ?_, ?_, ?_⟩ ?_ (by omega)) (hB.1 7 (by omega)) (by show σ0.n < σ3.n; omega)
                    · rcases lt9 hk9 with rfl | rfl | rfl | rfl | rfl | rfl | rfl | rfl | rfl <;> first | exact absurd rfl h7 | exact hB.1 _ hk9
                    · refine hB.2.trans (hv.trans ?_)
                      rw [hk]
                      rfl
                    · exact (hB.1 7 (by omega)).trans (e7.symm.trans (if_neg (show ¬ σ2.n = 0 by omega)).symm)
                    · exact Or.inr ⟨show σ0.n < σ2.n by omega, show σ2.n < σ3.n by omega⟩
                  · exact cEr.kc (by decide +kernel) (by omega) ((er w (by rw [hsp, hw]; rfl)).go hg.1)
                · intro z278
                  first | (exact absurd z278 (by decide)) | (exact absurd (by decide) z278) | (exact absurd rfl z278) | (exact absurd z278 (of_nn (by omega))) | (exact absurd (of_np (by omega)) z278) | omega
              · exact cEr.kc (by decide +kernel) (by omega) ((er w (by rw [hsp, hw]; rfl)).go hg.1)
        · intro z181
          first | (exact absurd z181 (by decide)) | (exact absurd (by decide) z181) | (exact absurd rfl z181) | (exact absurd z181 (of_nn (by omega))) | (exact absurd (of_np (by omega)) z181) | omega
      · intro z158
        first | (exact absurd z158 (by decide)) | (exact absurd (by decide) z158) | (exact absurd rfl z158) | (exact absurd z158 (of_nn (by omega))) | (exact absurd (of_np (by omega)) z158) | omega
    · intro z111
      first | (exact absurd z111 (by decide)) | (exact absurd (by decide) z111) | (exact absurd rfl z111) | (exact absurd z111 (of_nn (by omega))) | (exact absurd (of_np (by omega)) z111) | omega
  · exact cEr.kc (by decide +kernel) (by omega) (er _ (ms_E_8 hk40 hop h8))
theorem ci_o11 {l2 : Int32} (hG : cG n sl f0) (hl2 : l2 + 1 = Int32.ofNat (101 - j)) (hj : j + 10 ≤ e + 9) (IH : cIE n sl f0 g L j) (h : cst a0 g L σ0) (hk : σ0.t.k = 11) (ok : cokE n sl f0 g L Q a0 σ0 (ms_E g L (j + 1) false σ0)) (er : cerE n sl f0 Q a0 (ms_E g L (j + 1) false σ0)) : mi_W (e + 9) 48 107 [some (.ref 15), some (.int l2), some (.int 11), some (.int 0), none] [] (n, sl, hc a0 f0) Q := by
  have hn := hG.1
  have hk40 : ¬ σ0.t.k = ms_kc 40 := by rw [hk]; decide
  have hop : ms_op false σ0.t.k = some 11 := by rw [hk]; decide +kernel
  unfold cokE at ok
  unfold cerE at er
  refine b_48_107 _ _ _ (by first | (exact hc_o (by first | assumption | (exact ⟨by decide, rfl⟩))) | assumption | (exact (hc_far (by omega)).trans (by assumption))) (by omega) ?_
  refine cr_node (d := e + 1) hG h (fun h8 y1 v hs hg hv hB => ?_) (fun h8 => ?_)
  · have hsp : ms_E g L (j + 1) false σ0 = ms_eb (ms_pa g L (σ0.add.nx g L)) (fun p σ => ms_eb (ms_to g L σ) (fun t σ => .ok ((), σ.set σ0.n (11, p, 0, t, 0, 0, 0, 0, 0, 0)))) := ms_E_o hk40 hop (by omega)
    rw [hk] at hB
    generalize hσ1 : σ0.add.nx g L = σ1 at *
    have hn1 : σ1.n = σ0.n + 1 := by rw [← hσ1]; rfl
    have hr : crg (σ0.n + 1) σ1.n y1 σ1.tb := by rw [hn1]; exact crg.nil
    have hx := ix_of (w := σ0.n) (m := 800) (by omega) (by omega)
    have hle1 := hs.2.1.2
    refine b_48_111 _ _ _ ?_ ?_
    · intro z111
      first | (exact absurd z111 (by decide)) | (exact absurd (by decide) z111) | (exact absurd rfl z111) | (exact absurd z111 (of_nn (by omega))) | (exact absurd (of_np (by omega)) z111) | omega
    · intro z111
      refine b_48_119 _ _ _ (by first | (exact hc_o (by first | assumption | (exact ⟨by decide, rfl⟩))) | assumption | (exact (hc_far (by omega)).trans (by assumption))) (by omega) (by first | rfl | assumption) (by first | (exact hc_o (by first | assumption | (exact ⟨by decide, rfl⟩))) | assumption | (exact (hc_far (by omega)).trans (by assumption))) (by omega) (by first | rfl | assumption) (by first | (exact hc_o (by first | assumption | (exact ⟨by decide, rfl⟩))) | assumption | (exact (hc_far (by omega)).trans (by assumption))) (by omega) (by first | rfl | assumption) (by first | (exact hc_o (by first | assumption | (exact ⟨by decide, rfl⟩))) | assumption | (exact (hc_far (by omega)).trans (by assumption))) (by omega) ?_
      refine cr_pa (d := e + 1) hG hs (fun i2 σ2 hok hi hnn hxx y2 hs gg => ?_) (fun w hw => ?_)
      · rw [hok, ms_eb_ok] at hsp
        have hB := hB.go gg (by omega)
        have hr := hr.go gg (Nat.le_refl _)
        rw [← hnn] at hr
        have hg := hg.trans gg
        have hle2 := hs.2.1.2
        have hge2 := gg.2.2.1.1
        refine b_48_136 _ _ _ _ _ _ (by first | (exact hc_ai (by omega) (by first | assumption | (exact (ht9 (by assumption)).2.1) | (exact (ht9 (by assumption)).2.2.1) | (exact (ht9 (by assumption)).2.2.2) | rfl) (by decide)) | assumption | (exact (hc_far (by omega)).trans (by assumption))) (by omega) (by first | assumption | (exact ix_of (by omega) (by omega)) | (exact ⟨by decide, rfl, by decide⟩)) (by first | (exact (congrFun (hw_AI (by omega) (by first | assumption | (exact (ht9 (by assumption)).2.1) | (exact (ht9 (by assumption)).2.2.1) | (exact (ht9 (by assumption)).2.2.2) | rfl) (by decide)) _).trans (hc_o (by first | assumption | (exact ⟨by decide, rfl⟩)))) | assumption | (exact (hc_far (by omega)).trans (by assumption))) (by omega) (by first | rfl | assumption) (by first | (exact (congrFun (hw_AI (by omega) (by first | assumption | (exact (ht9 (by assumption)).2.1) | (exact (ht9 (by assumption)).2.2.1) | (exact (ht9 (by assumption)).2.2.2) | rfl) (by decide)) _).trans (hc_o (by first | assumption | (exact ⟨by decide, rfl⟩)))) | assumption | (exact (hc_far (by omega)).trans (by assumption))) (by omega) (by first | rfl | assumption) (by first | (exact (congrFun (hw_AI (by omega) (by first | assumption | (exact (ht9 (by assumption)).2.1) | (exact (ht9 (by assumption)).2.2.1) | (exact (ht9 (by assumption)).2.2.2) | rfl) (by decide)) _).trans (hc_o (by first | assumption | (exact ⟨by decide, rfl⟩)))) | assumption | (exact (hc_far (by omega)).trans (by assumption))) (by omega) (by first | rfl | assumption) (by first | (exact (congrFun (hw_AI (by omega) (by first | assumption | (exact (ht9 (by assumption)).2.1) | (exact (ht9 (by assumption)).2.2.1) | (exact (ht9 (by assumption)).2.2.2) | rfl) (by decide)) _).trans (hc_o (by first | assumption | (exact ⟨by decide, rfl⟩)))) | assumption | (exact (hc_far (by omega)).trans (by assumption))) (by omega) ?_
        refine hw_W (hw_AI (by omega) (by first | assumption | (exact (ht9 (by assumption)).2.1) | (exact (ht9 (by assumption)).2.2.1) | (exact (ht9 (by assumption)).2.2.2) | rfl) (by decide)) ?_
        show mi_W _ _ _ _ _ (n, sl, hc (cw 4 σ0.n (Int32.ofNat i2) y2) f0) _
        have hB := hB.w (k := 4) (v := Int32.ofNat i2)
        have hs := hs.w (k := 4) (m := σ0.n) (v := Int32.ofNat i2)
        have hg := hg.w (k := 4) (m := σ0.n) (v := Int32.ofNat i2) (Nat.le_refl _)
        have hr := hr.w (k := 4) (m := σ0.n) (v := Int32.ofNat i2) (Nat.lt_succ_self _)
        generalize cw 4 σ0.n (Int32.ofNat i2) y2 = y2 at *
        refine cr_to (d := e + 1) hG hs (fun i3 σ3 hok hi hnn hxx y3 hs gg => ?_) (fun w hw => ?_)
        · rw [hok, ms_eb_ok] at hsp
          have hB := hB.go gg (by omega)
          have hr := hr.go gg (Nat.le_refl _)
          rw [← hnn] at hr
          have hg := hg.trans gg
          have hle3 := hs.2.1.2
          have hge3 := gg.2.2.1.1
          refine b_48_154 _ _ _ _ _ _ (by first | (exact hc_ai (by omega) (by first | assumption | (exact (ht9 (by assumption)).2.1) | (exact (ht9 (by assumption)).2.2.1) | (exact (ht9 (by assumption)).2.2.2) | rfl) (by decide)) | assumption | (exact (hc_far (by omega)).trans (by assumption))) (by omega) (by first | assumption | (exact ix_of (by omega) (by omega)) | (exact ⟨by decide, rfl, by decide⟩)) ?_
          refine hw_W (hw_AI (by omega) (by first | assumption | (exact (ht9 (by assumption)).2.1) | (exact (ht9 (by assumption)).2.2.1) | (exact (ht9 (by assumption)).2.2.2) | rfl) (by decide)) ?_
          show mi_W _ _ _ _ _ (n, sl, hc (cw 5 σ0.n (Int32.ofNat i3) y3) f0) _
          have hB := hB.w (k := 5) (v := Int32.ofNat i3)
          have hs := hs.w (k := 5) (m := σ0.n) (v := Int32.ofNat i3)
          have hg := hg.w (k := 5) (m := σ0.n) (v := Int32.ofNat i3) (Nat.le_refl _)
          have hr := hr.w (k := 5) (m := σ0.n) (v := Int32.ofNat i3) (Nat.lt_succ_self _)
          generalize cw 5 σ0.n (Int32.ofNat i3) y3 = y3 at *
          refine b_48_278 _ _ _ ?_ ?_
          · intro z278
            first | (exact absurd z278 (by decide)) | (exact absurd (by decide) z278) | (exact absurd rfl z278) | (exact absurd z278 (of_nn (by omega))) | (exact absurd (of_np (by omega)) z278) | omega
          · intro z278
            refine b_48_282 _ _ _ ?_ ?_
            · intro z282
              refine b_48_305 _ _ _ _ _ _ (by first | (exact hc_o (by first | assumption | (exact ⟨by decide, rfl⟩))) | assumption | (exact (hc_far (by omega)).trans (by assumption))) (by omega) (by first | rfl | assumption) (by first | (exact hc_o (by first | assumption | (exact ⟨by decide, rfl⟩))) | assumption | (exact (hc_far (by omega)).trans (by assumption))) (by omega) (by first | rfl | assumption) (by first | (exact hc_o (by first | assumption | (exact ⟨by decide, rfl⟩))) | assumption | (exact (hc_far (by omega)).trans (by assumption))) (by omega) (by first | rfl | assumption) (by first | (exact hc_o (by first | assumption | (exact ⟨by decide, rfl⟩))) | assumption | (exact (hc_far (by omega)).trans (by assumption))) (by omega) (by first | rfl | assumption) (by first | (exact hc_ai (by omega) (by first | assumption | (exact (ht9 (by assumption)).2.1) | (exact (ht9 (by assumption)).2.2.1) | (exact (ht9 (by assumption)).2.2.2) | rfl) (by decide)) | assumption | (exact (hc_far (by omega)).trans (by assumption))) (by omega) (by first | assumption | (exact ix_of (by omega) (by omega)) | (exact ⟨by decide, rfl, by decide⟩)) ?_
              refine hw_Q (hw_AI (by omega) (by first | assumption | (exact (ht9 (by assumption)).2.1) | (exact (ht9 (by assumption)).2.2.1) | (exact (ht9 (by assumption)).2.2.2) | rfl) (by decide)) ?_
              have h11 := hs.2.1.1
              show Q (.inl (some (.int (Int32.ofNat σ0.n)))) (n, sl, hc (cw 7 σ0.n (y3.I 2 3 11) y3) f0)
              rw [h11]
              have hB := hB.w (k := 7) (v := Int32.ofNat σ3.n)
              have hr := hr.w (k := 7) (m := σ0.n) (v := Int32.ofNat σ3.n) (Nat.lt_succ_self _)
              refine ok _ _ hsp (hs.w.set) ((hg.w (Nat.le_refl _)).set (Nat.le_refl _)) (hr.one ⟨fun k hk9 h7 => ?_, ?_, ?_⟩ ?_ (by omega)) (hB.1 7 (by omega)) (by show σ0.n < σ3.n; omega)
              · rcases lt9 hk9 with rfl | rfl | rfl | rfl | rfl | rfl | rfl | rfl | rfl <;> first | exact absurd rfl h7 | exact hB.1 _ hk9
              · refine hB.2.trans (hv.trans ?_)
                rw [hk]
                rfl
              · exact (hB.1 7 (by omega)).trans (congrArg Int32.ofNat (by omega : σ3.n = σ0.n + 1))
              · exact Or.inl rfl
            · intro z282
              first | (exact absurd z282 (by decide)) | (exact absurd (by decide) z282) | (exact absurd rfl z282) | (exact absurd z282 (of_nn (by omega))) | (exact absurd (of_np (by omega)) z282) | omega
        · exact cEr.kc (by decide +kernel) (by omega) ((er w (by rw [hsp, hw]; rfl)).go hg.1)
      · exact cEr.kc (by decide +kernel) (by omega) ((er w (by rw [hsp, hw]; rfl)).go hg.1)
  · exact cEr.kc (by decide +kernel) (by omega) (er _ (ms_E_8 hk40 hop h8))
theorem ci_o17 {l2 : Int32} (hG : cG n sl f0) (hl2 : l2 + 1 = Int32.ofNat (101 - j)) (hj : j + 10 ≤ e + 9) (IH : cIE n sl f0 g L j) (h : cst a0 g L σ0) (hk : σ0.t.k = 13) (ok : cokE n sl f0 g L Q a0 σ0 (ms_E g L (j + 1) false σ0)) (er : cerE n sl f0 Q a0 (ms_E g L (j + 1) false σ0)) : mi_W (e + 9) 48 107 [some (.ref 15), some (.int l2), some (.int 13), some (.int 0), none] [] (n, sl, hc a0 f0) Q := by
  have hn := hG.1
  have hk40 : ¬ σ0.t.k = ms_kc 40 := by rw [hk]; decide
  have hop : ms_op false σ0.t.k = some 17 := by rw [hk]; decide +kernel
  unfold cokE at ok
  unfold cerE at er
  refine b_48_107 _ _ _ (by first | (exact hc_o (by first | assumption | (exact ⟨by decide, rfl⟩))) | assumption | (exact (hc_far (by omega)).trans (by assumption))) (by omega) ?_
  refine cr_node (d := e + 1) hG h (fun h8 y1 v hs hg hv hB => ?_) (fun h8 => ?_)
  · have hsp : ms_E g L (j + 1) false σ0 = ms_eb (ms_hc g L (σ0.add.nx g L)) (fun h σ => .ok ((), σ.set σ0.n (17, h, 0, 0, 0, 0, 0, 0, 0, 0))) := ms_E_o hk40 hop (by omega)
    rw [hk] at hB
    generalize hσ1 : σ0.add.nx g L = σ1 at *
    have hn1 : σ1.n = σ0.n + 1 := by rw [← hσ1]; rfl
    have hr : crg (σ0.n + 1) σ1.n y1 σ1.tb := by rw [hn1]; exact crg.nil
    have hx := ix_of (w := σ0.n) (m := 800) (by omega) (by omega)
    have hle1 := hs.2.1.2
    refine b_48_111 _ _ _ ?_ ?_
    · intro z111
      refine b_48_158 _ _ _ ?_ ?_
      · intro z158
        first | (exact absurd z158 (by decide)) | (exact absurd (by decide) z158) | (exact absurd rfl z158) | (exact absurd z158 (of_nn (by omega))) | (exact absurd (of_np (by omega)) z158) | omega
      · intro z158
        refine b_48_164 _ _ _ (by first | (exact hc_o (by first | assumption | (exact ⟨by decide, rfl⟩))) | assumption | (exact (hc_far (by omega)).trans (by assumption))) (by omega) (by first | rfl | assumption) (by first | (exact hc_o (by first | assumption | (exact ⟨by decide, rfl⟩))) | assumption | (exact (hc_far (by omega)).trans (by assumption))) (by omega) (by first | rfl | assumption) (by first | (exact hc_o (by first | assumption | (exact ⟨by decide, rfl⟩))) | assumption | (exact (hc_far (by omega)).trans (by assumption))) (by omega) ?_
        refine cr_hc (d := e) hG hs (fun i2 σ2 hok hi hnn y2 hs gg => ?_) (fun w hw => ?_)
        · rw [hok, ms_eb_ok] at hsp
          have hB := hB.go gg (by omega)
          have hr := hr.go gg (Nat.le_refl _)
          rw [← hnn] at hr
          have hg := hg.trans gg
          have hle2 := hs.2.1.2
          have hge2 := gg.2.2.1.1
          refine b_48_177 _ _ _ _ _ _ (by first | (exact hc_ai (by omega) (by first | assumption | (exact (ht9 (by assumption)).2.1) | (exact (ht9 (by assumption)).2.2.1) | (exact (ht9 (by assumption)).2.2.2) | rfl) (by decide)) | assumption | (exact (hc_far (by omega)).trans (by assumption))) (by omega) (by first | assumption | (exact ix_of (by omega) (by omega)) | (exact ⟨by decide, rfl, by decide⟩)) ?_
          refine hw_W (hw_AI (by omega) (by first | assumption | (exact (ht9 (by assumption)).2.1) | (exact (ht9 (by assumption)).2.2.1) | (exact (ht9 (by assumption)).2.2.2) | rfl) (by decide)) ?_
          show mi_W _ _ _ _ _ (n, sl, hc (cw 4 σ0.n (Int32.ofNat i2) y2) f0) _
          have hB := hB.w (k := 4) (v := Int32.ofNat i2)
          have hs := hs.w (k := 4) (m := σ0.n) (v := Int32.ofNat i2)
          have hg := hg.w (k := 4) (m := σ0.n) (v := Int32.ofNat i2) (Nat.le_refl _)
          have hr := hr.w (k := 4) (m := σ0.n) (v := Int32.ofNat i2) (Nat.lt_succ_self _)
          generalize cw 4 σ0.n (Int32.ofNat i2) y2 = y2 at *
          refine b_48_278 _ _ _ ?_ ?_
          · intro z278
            first | (exact absurd z278 (by decide)) | (exact absurd (by decide) z278) | (exact absurd rfl z278) | (exact absurd z278 (of_nn (by omega))) | (exact absurd (of_np (by omega)) z278) | omega
          · intro z278
            refine b_48_282 _ _ _ ?_ ?_
            · intro z282
              refine b_48_305 _ _ _ _ _ _ (by first | (exact hc_o (by first | assumption | (exact ⟨by decide, rfl⟩))) | assumption | (exact (hc_far (by omega)).trans (by assumption))) (by omega) (by first | rfl | assumption) (by first | (exact hc_o (by first | assumption | (exact ⟨by decide, rfl⟩))) | assumption | (exact (hc_far (by omega)).trans (by assumption))) (by omega) (by first | rfl | assumption) (by first | (exact hc_o (by first | assumption | (exact ⟨by decide, rfl⟩))) | assumption | (exact (hc_far (by omega)).trans (by assumption))) (by omega) (by first | rfl | assumption) (by first | (exact hc_o (by first | assumption | (exact ⟨by decide, rfl⟩))) | assumption | (exact (hc_far (by omega)).trans (by assumption))) (by omega) (by first | rfl | assumption) (by first | (exact hc_ai (by omega) (by first | assumption | (exact (ht9 (by assumption)).2.1) | (exact (ht9 (by assumption)).2.2.1) | (exact (ht9 (by assumption)).2.2.2) | rfl) (by decide)) | assumption | (exact (hc_far (by omega)).trans (by assumption))) (by omega) (by first | assumption | (exact ix_of (by omega) (by omega)) | (exact ⟨by decide, rfl, by decide⟩)) ?_
              refine hw_Q (hw_AI (by omega) (by first | assumption | (exact (ht9 (by assumption)).2.1) | (exact (ht9 (by assumption)).2.2.1) | (exact (ht9 (by assumption)).2.2.2) | rfl) (by decide)) ?_
              have h11 := hs.2.1.1
              show Q (.inl (some (.int (Int32.ofNat σ0.n)))) (n, sl, hc (cw 7 σ0.n (y2.I 2 3 11) y2) f0)
              rw [h11]
              have hB := hB.w (k := 7) (v := Int32.ofNat σ2.n)
              have hr := hr.w (k := 7) (m := σ0.n) (v := Int32.ofNat σ2.n) (Nat.lt_succ_self _)
              refine ok _ _ hsp (hs.w.set) ((hg.w (Nat.le_refl _)).set (Nat.le_refl _)) (hr.one ⟨fun k hk9 h7 => ?_, ?_, ?_⟩ ?_ (by omega)) (hB.1 7 (by omega)) (by show σ0.n < σ2.n; omega)
              · rcases lt9 hk9 with rfl | rfl | rfl | rfl | rfl | rfl | rfl | rfl | rfl <;> first | exact absurd rfl h7 | exact hB.1 _ hk9
              · refine hB.2.trans (hv.trans ?_)
                rw [hk]
                rfl
              · exact (hB.1 7 (by omega)).trans (congrArg Int32.ofNat (by omega : σ2.n = σ0.n + 1))
              · exact Or.inl rfl
            · intro z282
              first | (exact absurd z282 (by decide)) | (exact absurd (by decide) z282) | (exact absurd rfl z282) | (exact absurd z282 (of_nn (by omega))) | (exact absurd (of_np (by omega)) z282) | omega
        · exact cEr.kc (by decide +kernel) (by omega) ((er w (by rw [hsp, hw]; rfl)).go hg.1)
    · intro z111
      first | (exact absurd z111 (by decide)) | (exact absurd (by decide) z111) | (exact absurd rfl z111) | (exact absurd z111 (of_nn (by omega))) | (exact absurd (of_np (by omega)) z111) | omega
  · exact cEr.kc (by decide +kernel) (by omega) (er _ (ms_E_8 hk40 hop h8))
theorem ci_o18 {l2 : Int32} (hG : cG n sl f0) (hl2 : l2 + 1 = Int32.ofNat (101 - j)) (hj : j + 10 ≤ e + 9) (IH : cIE n sl f0 g L j) (h : cst a0 g L σ0) (hk : σ0.t.k = 14) (ok : cokE n sl f0 g L Q a0 σ0 (ms_E g L (j + 1) false σ0)) (er : cerE n sl f0 Q a0 (ms_E g L (j + 1) false σ0)) : mi_W (e + 9) 48 107 [some (.ref 15), some (.int l2), some (.int 14), some (.int 0), none] [] (n, sl, hc a0 f0) Q := by
  have hn := hG.1
  have hk40 : ¬ σ0.t.k = ms_kc 40 := by rw [hk]; decide
  have hop : ms_op false σ0.t.k = some 18 := by rw [hk]; decide +kernel
  unfold cokE at ok
  unfold cerE at er
  refine b_48_107 _ _ _ (by first | (exact hc_o (by first | assumption | (exact ⟨by decide, rfl⟩))) | assumption | (exact (hc_far (by omega)).trans (by assumption))) (by omega) ?_
  refine cr_node (d := e + 1) hG h (fun h8 y1 v hs hg hv hB => ?_) (fun h8 => ?_)
  · have hsp : ms_E g L (j + 1) false σ0 = ms_eb (ms_va g L (σ0.add.nx g L)) (fun h σ => .ok ((), σ.set σ0.n (18, h, 0, 0, 0, 0, 0, 0, 0, 0))) := ms_E_o hk40 hop (by omega)
    rw [hk] at hB
    generalize hσ1 : σ0.add.nx g L = σ1 at *
    have hn1 : σ1.n = σ0.n + 1 := by rw [← hσ1]; rfl
    have hr : crg (σ0.n + 1) σ1.n y1 σ1.tb := by rw [hn1]; exact crg.nil
    have hx := ix_of (w := σ0.n) (m := 800) (by omega) (by omega)
    have hle1 := hs.2.1.2
    refine b_48_111 _ _ _ ?_ ?_
    · intro z111
      refine b_48_158 _ _ _ ?_ ?_
      · intro z158
        refine b_48_181 _ _ _ ?_ ?_
        · intro z181
          first | (exact absurd z181 (by decide)) | (exact absurd (by decide) z181) | (exact absurd rfl z181) | (exact absurd z181 (of_nn (by omega))) | (exact absurd (of_np (by omega)) z181) | omega
        · intro z181
          refine b_48_187 _ _ _ (by first | (exact hc_o (by first | assumption | (exact ⟨by decide, rfl⟩))) | assumption | (exact (hc_far (by omega)).trans (by assumption))) (by omega) (by first | rfl | assumption) (by first | (exact hc_o (by first | assumption | (exact ⟨by decide, rfl⟩))) | assumption | (exact (hc_far (by omega)).trans (by assumption))) (by omega) (by first | rfl | assumption) (by first | (exact hc_o (by first | assumption | (exact ⟨by decide, rfl⟩))) | assumption | (exact (hc_far (by omega)).trans (by assumption))) (by omega) (by first | rfl | assumption) (by first | (exact hc_o (by first | assumption | (exact ⟨by decide, rfl⟩))) | assumption | (exact (hc_far (by omega)).trans (by assumption))) (by omega) ?_
          refine cr_va (d := e + 1) hG hs (fun i2 σ2 hok hi hnn hxx y2 hs gg => ?_) (fun w hw => ?_)
          · rw [hok, ms_eb_ok] at hsp
            have hB := hB.go gg (by omega)
            have hr := hr.go gg (Nat.le_refl _)
            rw [← hnn] at hr
            have hg := hg.trans gg
            have hle2 := hs.2.1.2
            have hge2 := gg.2.2.1.1
            refine b_48_204 _ _ _ _ _ _ (by first | (exact hc_ai (by omega) (by first | assumption | (exact (ht9 (by assumption)).2.1) | (exact (ht9 (by assumption)).2.2.1) | (exact (ht9 (by assumption)).2.2.2) | rfl) (by decide)) | assumption | (exact (hc_far (by omega)).trans (by assumption))) (by omega) (by first | assumption | (exact ix_of (by omega) (by omega)) | (exact ⟨by decide, rfl, by decide⟩)) ?_
            refine hw_W (hw_AI (by omega) (by first | assumption | (exact (ht9 (by assumption)).2.1) | (exact (ht9 (by assumption)).2.2.1) | (exact (ht9 (by assumption)).2.2.2) | rfl) (by decide)) ?_
            show mi_W _ _ _ _ _ (n, sl, hc (cw 4 σ0.n (Int32.ofNat i2) y2) f0) _
            have hB := hB.w (k := 4) (v := Int32.ofNat i2)
            have hs := hs.w (k := 4) (m := σ0.n) (v := Int32.ofNat i2)
            have hg := hg.w (k := 4) (m := σ0.n) (v := Int32.ofNat i2) (Nat.le_refl _)
            have hr := hr.w (k := 4) (m := σ0.n) (v := Int32.ofNat i2) (Nat.lt_succ_self _)
            generalize cw 4 σ0.n (Int32.ofNat i2) y2 = y2 at *
            refine b_48_278 _ _ _ ?_ ?_
            · intro z278
              first | (exact absurd z278 (by decide)) | (exact absurd (by decide) z278) | (exact absurd rfl z278) | (exact absurd z278 (of_nn (by omega))) | (exact absurd (of_np (by omega)) z278) | omega
            · intro z278
              refine b_48_282 _ _ _ ?_ ?_
              · intro z282
                refine b_48_305 _ _ _ _ _ _ (by first | (exact hc_o (by first | assumption | (exact ⟨by decide, rfl⟩))) | assumption | (exact (hc_far (by omega)).trans (by assumption))) (by omega) (by first | rfl | assumption) (by first | (exact hc_o (by first | assumption | (exact ⟨by decide, rfl⟩))) | assumption | (exact (hc_far (by omega)).trans (by assumption))) (by omega) (by first | rfl | assumption) (by first | (exact hc_o (by first | assumption | (exact ⟨by decide, rfl⟩))) | assumption | (exact (hc_far (by omega)).trans (by assumption))) (by omega) (by first | rfl | assumption) (by first | (exact hc_o (by first | assumption | (exact ⟨by decide, rfl⟩))) | assumption | (exact (hc_far (by omega)).trans (by assumption))) (by omega) (by first | rfl | assumption) (by first | (exact hc_ai (by omega) (by first | assumption | (exact (ht9 (by assumption)).2.1) | (exact (ht9 (by assumption)).2.2.1) | (exact (ht9 (by assumption)).2.2.2) | rfl) (by decide)) | assumption | (exact (hc_far (by omega)).trans (by assumption))) (by omega) (by first | assumption | (exact ix_of (by omega) (by omega)) | (exact ⟨by decide, rfl, by decide⟩)) ?_
                refine hw_Q (hw_AI (by omega) (by first | assumption | (exact (ht9 (by assumption)).2.1) | (exact (ht9 (by assumption)).2.2.1) | (exact (ht9 (by assumption)).2.2.2) | rfl) (by decide)) ?_
                have h11 := hs.2.1.1
                show Q (.inl (some (.int (Int32.ofNat σ0.n)))) (n, sl, hc (cw 7 σ0.n (y2.I 2 3 11) y2) f0)
                rw [h11]
                have hB := hB.w (k := 7) (v := Int32.ofNat σ2.n)
                have hr := hr.w (k := 7) (m := σ0.n) (v := Int32.ofNat σ2.n) (Nat.lt_succ_self _)
                refine ok _ _ hsp (hs.w.set) ((hg.w (Nat.le_refl _)).set (Nat.le_refl _)) (hr.one ⟨fun k hk9 h7 => ?_, ?_, ?_⟩ ?_ (by omega)) (hB.1 7 (by omega)) (by show σ0.n < σ2.n; omega)
                · rcases lt9 hk9 with rfl | rfl | rfl | rfl | rfl | rfl | rfl | rfl | rfl <;> first | exact absurd rfl h7 | exact hB.1 _ hk9
                · refine hB.2.trans (hv.trans ?_)
                  rw [hk]
                  rfl
                · exact (hB.1 7 (by omega)).trans (congrArg Int32.ofNat (by omega : σ2.n = σ0.n + 1))
                · exact Or.inl rfl
              · intro z282
                first | (exact absurd z282 (by decide)) | (exact absurd (by decide) z282) | (exact absurd rfl z282) | (exact absurd z282 (of_nn (by omega))) | (exact absurd (of_np (by omega)) z282) | omega
          · exact cEr.kc (by decide +kernel) (by omega) ((er w (by rw [hsp, hw]; rfl)).go hg.1)
      · intro z158
        first | (exact absurd z158 (by decide)) | (exact absurd (by decide) z158) | (exact absurd rfl z158) | (exact absurd z158 (of_nn (by omega))) | (exact absurd (of_np (by omega)) z158) | omega
    · intro z111
      first | (exact absurd z111 (by decide)) | (exact absurd (by decide) z111) | (exact absurd rfl z111) | (exact absurd z111 (of_nn (by omega))) | (exact absurd (of_np (by omega)) z111) | omega
  · exact cEr.kc (by decide +kernel) (by omega) (er _ (ms_E_8 hk40 hop h8))
theorem ci_o12 {l2 : Int32} (hG : cG n sl f0) (hl2 : l2 + 1 = Int32.ofNat (101 - j)) (hj : j + 10 ≤ e + 9) (IH : cIE n sl f0 g L j) (h : cst a0 g L σ0) (hk : σ0.t.k = 12) (ok : cokE n sl f0 g L Q a0 σ0 (ms_E g L (j + 1) false σ0)) (er : cerE n sl f0 Q a0 (ms_E g L (j + 1) false σ0)) : mi_W (e + 9) 48 107 [some (.ref 15), some (.int l2), some (.int 12), some (.int 0), none] [] (n, sl, hc a0 f0) Q := by
  have hn := hG.1
  have hk40 : ¬ σ0.t.k = ms_kc 40 := by rw [hk]; decide
  have hop : ms_op false σ0.t.k = some 12 := by rw [hk]; decide +kernel
  unfold cokE at ok
  unfold cerE at er
  refine b_48_107 _ _ _ (by first | (exact hc_o (by first | assumption | (exact ⟨by decide, rfl⟩))) | assumption | (exact (hc_far (by omega)).trans (by assumption))) (by omega) ?_
  refine cr_node (d := e + 1) hG h (fun h8 y1 v hs hg hv hB => ?_) (fun h8 => ?_)
  · have hsp : ms_E g L (j + 1) false σ0 = ms_eb (ms_E g L j false (σ0.add.nx g L)) (fun _ σ1 => .ok ((), σ1.set σ0.n (12, 0, 0, 0, 0, (σ0.add.nx g L).n, 0, 0, 0, 0))) := ms_E_o hk40 hop (by omega)
    rw [hk] at hB
    generalize hσ1 : σ0.add.nx g L = σ1 at *
    have hn1 : σ1.n = σ0.n + 1 := by rw [← hσ1]; rfl
    have hr : crg (σ0.n + 1) σ1.n y1 σ1.tb := by rw [hn1]; exact crg.nil
    have hx := ix_of (w := σ0.n) (m := 800) (by omega) (by omega)
    have hle1 := hs.2.1.2
    refine b_48_111 _ _ _ ?_ ?_
    · intro z111
      refine b_48_158 _ _ _ ?_ ?_
      · intro z158
        refine b_48_181 _ _ _ ?_ ?_
        · intro z181
          refine b_48_208 _ _ _ ?_ ?_
          · intro z208
            refine b_48_218 _ _ _ (by first | (exact hc_o (by first | assumption | (exact ⟨by decide, rfl⟩))) | assumption | (exact (hc_far (by omega)).trans (by assumption))) (by omega) (by first | rfl | assumption) (by first | (exact hc_o (by first | assumption | (exact ⟨by decide, rfl⟩))) | assumption | (exact (hc_far (by omega)).trans (by assumption))) (by omega) (by first | rfl | assumption) (by first | (exact hc_o (by first | assumption | (exact ⟨by decide, rfl⟩))) | assumption | (exact (hc_far (by omega)).trans (by assumption))) (by omega) ?_
            rw [hl2]
            refine IH.1 (e + 8) _ _ _ (by omega) hs (fun y2 σ2 hok hs gg hrE e7 hlt => ?_) (fun w hw => ?_)
            · rw [hok, ms_eb_ok] at hsp
              have hB := hB.go gg (by omega)
              have hr := (hr.go gg (Nat.le_refl _)).join hrE (by omega)
              have hg := hg.trans gg
              have hle2 := hs.2.1.2
              have hge2 := gg.2.2.1.1
              refine b_48_234 _ _ _ _ _ _ (by first | (exact hc_ai (by omega) (by first | assumption | (exact (ht9 (by assumption)).2.1) | (exact (ht9 (by assumption)).2.2.1) | (exact (ht9 (by assumption)).2.2.2) | rfl) (by decide)) | assumption | (exact (hc_far (by omega)).trans (by assumption))) (by omega) (by first | assumption | (exact ix_of (by omega) (by omega)) | (exact ⟨by decide, rfl, by decide⟩)) ?_
              refine hw_W (hw_AI (by omega) (by first | assumption | (exact (ht9 (by assumption)).2.1) | (exact (ht9 (by assumption)).2.2.1) | (exact (ht9 (by assumption)).2.2.2) | rfl) (by decide)) ?_
              show mi_W _ _ _ _ _ (n, sl, hc (cw 1 σ0.n (Int32.ofNat σ1.n) y2) f0) _
              have hB := hB.w (k := 1) (v := Int32.ofNat σ1.n)
              have hs := hs.w (k := 1) (m := σ0.n) (v := Int32.ofNat σ1.n)
              have hg := hg.w (k := 1) (m := σ0.n) (v := Int32.ofNat σ1.n) (Nat.le_refl _)
              have hr := hr.w (k := 1) (m := σ0.n) (v := Int32.ofNat σ1.n) (Nat.lt_succ_self _)
              have e7 := (cw_ne (k := 1) (m := σ0.n) (v := Int32.ofNat σ1.n) (a := y2) (k' := 7) (m' := σ1.n) (fun z => by omega)).trans e7
              generalize cw 1 σ0.n (Int32.ofNat σ1.n) y2 = y2 at *
              refine b_48_278 _ _ _ ?_ ?_
              · intro z278
                first | (exact absurd z278 (by decide)) | (exact absurd (by decide) z278) | (exact absurd rfl z278) | (exact absurd z278 (of_nn (by omega))) | (exact absurd (of_np (by omega)) z278) | omega
              · intro z278
                refine b_48_282 _ _ _ ?_ ?_
                · intro z282
                  refine b_48_305 _ _ _ _ _ _ (by first | (exact hc_o (by first | assumption | (exact ⟨by decide, rfl⟩))) | assumption | (exact (hc_far (by omega)).trans (by assumption))) (by omega) (by first | rfl | assumption) (by first | (exact hc_o (by first | assumption | (exact ⟨by decide, rfl⟩))) | assumption | (exact (hc_far (by omega)).trans (by assumption))) (by omega) (by first | rfl | assumption) (by first | (exact hc_o (by first | assumption | (exact ⟨by decide, rfl⟩))) | assumption | (exact (hc_far (by omega)).trans (by assumption))) (by omega) (by first | rfl | assumption) (by first | (exact hc_o (by first | assumption | (exact ⟨by decide, rfl⟩))) | assumption | (exact (hc_far (by omega)).trans (by assumption))) (by omega) (by first | rfl | assumption) (by first | (exact hc_ai (by omega) (by first | assumption | (exact (ht9 (by assumption)).2.1) | (exact (ht9 (by assumption)).2.2.1) | (exact (ht9 (by assumption)).2.2.2) | rfl) (by decide)) | assumption | (exact (hc_far (by omega)).trans (by assumption))) (by omega) (by first | assumption | (exact ix_of (by omega) (by omega)) | (exact ⟨by decide, rfl, by decide⟩)) ?_
                  refine hw_Q (hw_AI (by omega) (by first | assumption | (exact (ht9 (by assumption)).2.1) | (exact (ht9 (by assumption)).2.2.1) | (exact (ht9 (by assumption)).2.2.2) | rfl) (by decide)) ?_
                  have h11 := hs.2.1.1
                  show Q (.inl (some (.int (Int32.ofNat σ0.n)))) (n, sl, hc (cw 7 σ0.n (y2.I 2 3 11) y2) f0)
                  rw [h11]
                  have hB := hB.w (k := 7) (v := Int32.ofNat σ2.n)
                  have hr := hr.w (k := 7) (m := σ0.n) (v := Int32.ofNat σ2.n) (Nat.lt_succ_self _)
                  have e7 := (cw_ne (k := 7) (m := σ0.n) (v := Int32.ofNat σ2.n) (a := y2) (k' := 7) (m' := σ1.n) (fun z => by omega)).trans e7
                  refine ok _ _ hsp (hs.w.set) ((hg.w (Nat.le_refl _)).set (Nat.le_refl _)) (hr.one ⟨fun k hk9 h7 => ?_, ?_, ?_⟩ ?_ (by omega)) (hB.1 7 (by omega)) (by show σ0.n < σ2.n; omega)
                  · rcases lt9 hk9 with rfl | rfl | rfl | rfl | rfl | rfl | rfl | rfl | rfl <;> first | exact absurd rfl h7 | exact hB.1 _ hk9
                  · refine hB.2.trans (hv.trans ?_)
                    rw [hk]
                    rfl
                  · exact (hB.1 7 (by omega)).trans (e7.symm.trans (if_neg (show ¬ σ1.n = 0 by omega)).symm)
                  · exact Or.inr ⟨show σ0.n < σ1.n by omega, show σ1.n < σ2.n by omega⟩
                · intro z282
                  first | (exact absurd z282 (by decide)) | (exact absurd (by decide) z282) | (exact absurd rfl z282) | (exact absurd z282 (of_nn (by omega))) | (exact absurd (of_np (by omega)) z282) | omega
            · exact cEr.kc (by decide +kernel) (by omega) ((er w (by rw [hsp, hw]; rfl)).go hg.1)
          · intro z208
            first | (exact absurd z208 (by decide)) | (exact absurd (by decide) z208) | (exact absurd rfl z208) | (exact absurd z208 (of_nn (by omega))) | (exact absurd (of_np (by omega)) z208) | omega
        · intro z181
          first | (exact absurd z181 (by decide)) | (exact absurd (by decide) z181) | (exact absurd rfl z181) | (exact absurd z181 (of_nn (by omega))) | (exact absurd (of_np (by omega)) z181) | omega
      · intro z158
        first | (exact absurd z158 (by decide)) | (exact absurd (by decide) z158) | (exact absurd rfl z158) | (exact absurd z158 (of_nn (by omega))) | (exact absurd (of_np (by omega)) z158) | omega
    · intro z111
      first | (exact absurd z111 (by decide)) | (exact absurd (by decide) z111) | (exact absurd rfl z111) | (exact absurd z111 (of_nn (by omega))) | (exact absurd (of_np (by omega)) z111) | omega
  · exact cEr.kc (by decide +kernel) (by omega) (er _ (ms_E_8 hk40 hop h8))
theorem ci_o21 {l2 : Int32} (hG : cG n sl f0) (hl2 : l2 + 1 = Int32.ofNat (101 - j)) (hj : j + 10 ≤ e + 9) (IH : cIE n sl f0 g L j) (h : cst a0 g L σ0) (hk : σ0.t.k = 17) (ok : cokE n sl f0 g L Q a0 σ0 (ms_E g L (j + 1) false σ0)) (er : cerE n sl f0 Q a0 (ms_E g L (j + 1) false σ0)) : mi_W (e + 9) 48 107 [some (.ref 15), some (.int l2), some (.int 17), some (.int 0), none] [] (n, sl, hc a0 f0) Q := by
  have hn := hG.1
  have hk40 : ¬ σ0.t.k = ms_kc 40 := by rw [hk]; decide
  have hop : ms_op false σ0.t.k = some 21 := by rw [hk]; decide +kernel
  unfold cokE at ok
  unfold cerE at er
  refine b_48_107 _ _ _ (by first | (exact hc_o (by first | assumption | (exact ⟨by decide, rfl⟩))) | assumption | (exact (hc_far (by omega)).trans (by assumption))) (by omega) ?_
  refine cr_node (d := e + 1) hG h (fun h8 y1 v hs hg hv hB => ?_) (fun h8 => ?_)
  · have hsp : ms_E g L (j + 1) false σ0 = ms_eb (ms_E g L j true (σ0.add.nx g L)) (fun _ σ1 => ms_eb (ms_E g L j false σ1) (fun _ σ2 => ms_eb (ms_E g L j false σ2) (fun _ σ3 => .ok ((), σ3.set σ0.n (21, 0, 0, 0, 0, (σ0.add.nx g L).n, σ1.n, σ2.n, 0, 0))))) := ms_E_o hk40 hop (by omega)
    rw [hk] at hB
    generalize hσ1 : σ0.add.nx g L = σ1 at *
    have hn1 : σ1.n = σ0.n + 1 := by rw [← hσ1]; rfl
    have hr : crg (σ0.n + 1) σ1.n y1 σ1.tb := by rw [hn1]; exact crg.nil
    have hx := ix_of (w := σ0.n) (m := 800) (by omega) (by omega)
    have hle1 := hs.2.1.2
    refine b_48_111 _ _ _ ?_ ?_
    · intro z111
      refine b_48_158 _ _ _ ?_ ?_
      · intro z158
        refine b_48_181 _ _ _ ?_ ?_
        · intro z181
          refine b_48_208 _ _ _ ?_ ?_
          · intro z208
            first | (exact absurd z208 (by decide)) | (exact absurd (by decide) z208) | (exact absurd rfl z208) | (exact absurd z208 (of_nn (by omega))) | (exact absurd (of_np (by omega)) z208) | omega
          · intro z208
            refine b_48_214 _ _ _ ?_ ?_
            · intro z214
              refine b_48_238 _ _ _ ?_ ?_
              · intro z238
                first | (exact absurd z238 (by decide)) | (exact absurd (by decide) z238) | (exact absurd rfl z238) | (exact absurd z238 (of_nn (by omega))) | (exact absurd (of_np (by omega)) z238) | omega
              · intro z238
                refine b_48_244 _ _ _ (by first | (exact hc_o (by first | assumption | (exact ⟨by decide, rfl⟩))) | assumption | (exact (hc_far (by omega)).trans (by assumption))) (by omega) (by first | rfl | assumption) (by first | (exact hc_o (by first | assumption | (exact ⟨by decide, rfl⟩))) | assumption | (exact (hc_far (by omega)).trans (by assumption))) (by omega) (by first | rfl | assumption) (by first | (exact hc_o (by first | assumption | (exact ⟨by decide, rfl⟩))) | assumption | (exact (hc_far (by omega)).trans (by assumption))) (by omega) ?_
                rw [hl2]
                refine IH.2 (e + 8) _ _ _ (by omega) hs (fun y2 σ2 hok hs gg hrE e7 hlt => ?_) (fun w hw => ?_)
                · rw [hok, ms_eb_ok] at hsp
                  have hB := hB.go gg (by omega)
                  have hr := (hr.go gg (Nat.le_refl _)).join hrE (by omega)
                  have hg := hg.trans gg
                  have hle2 := hs.2.1.2
                  have hge2 := gg.2.2.1.1
                  refine b_48_260 _ _ _ _ _ _ (by first | (exact hc_ai (by omega) (by first | assumption | (exact (ht9 (by assumption)).2.1) | (exact (ht9 (by assumption)).2.2.1) | (exact (ht9 (by assumption)).2.2.2) | rfl) (by decide)) | assumption | (exact (hc_far (by omega)).trans (by assumption))) (by omega) (by first | assumption | (exact ix_of (by omega) (by omega)) | (exact ⟨by decide, rfl, by decide⟩)) (by first | (exact (congrFun (hw_AI (by omega) (by first | assumption | (exact (ht9 (by assumption)).2.1) | (exact (ht9 (by assumption)).2.2.1) | (exact (ht9 (by assumption)).2.2.2) | rfl) (by decide)) _).trans (hc_o (by first | assumption | (exact ⟨by decide, rfl⟩)))) | assumption | (exact (hc_far (by omega)).trans (by assumption))) (by omega) (by first | rfl | assumption) (by first | (exact (congrFun (hw_AI (by omega) (by first | assumption | (exact (ht9 (by assumption)).2.1) | (exact (ht9 (by assumption)).2.2.1) | (exact (ht9 (by assumption)).2.2.2) | rfl) (by decide)) _).trans (hc_o (by first | assumption | (exact ⟨by decide, rfl⟩)))) | assumption | (exact (hc_far (by omega)).trans (by assumption))) (by omega) (by first | rfl | assumption) (by first | (exact (congrFun (hw_AI (by omega) (by first | assumption | (exact (ht9 (by assumption)).2.1) | (exact (ht9 (by assumption)).2.2.1) | (exact (ht9 (by assumption)).2.2.2) | rfl) (by decide)) _).trans (hc_o (by first | assumption | (exact ⟨by decide, rfl⟩)))) | assumption | (exact (hc_far (by omega)).trans (by assumption))) (by omega) ?_
                  refine hw_W (hw_AI (by omega) (by first | assumption | (exact (ht9 (by assumption)).2.1) | (exact (ht9 (by assumption)).2.2.1) | (exact (ht9 (by assumption)).2.2.2) | rfl) (by decide)) ?_
                  show mi_W _ _ _ _ _ (n, sl, hc (cw 1 σ0.n (Int32.ofNat σ1.n) y2) f0) _
                  have hB := hB.w (k := 1) (v := Int32.ofNat σ1.n)
                  have hs := hs.w (k := 1) (m := σ0.n) (v := Int32.ofNat σ1.n)
                  have hg := hg.w (k := 1) (m := σ0.n) (v := Int32.ofNat σ1.n) (Nat.le_refl _)
                  have hr := hr.w (k := 1) (m := σ0.n) (v := Int32.ofNat σ1.n) (Nat.lt_succ_self _)
                  have e7 := (cw_ne (k := 1) (m := σ0.n) (v := Int32.ofNat σ1.n) (a := y2) (k' := 7) (m' := σ1.n) (fun z => by omega)).trans e7
                  generalize cw 1 σ0.n (Int32.ofNat σ1.n) y2 = y2 at *
                  rw [hl2]
                  refine IH.1 (e + 8) _ _ _ (by omega) hs (fun y3 σ3 hok hs gg hrE e7 hlt => ?_) (fun w hw => ?_)
                  · rw [hok, ms_eb_ok] at hsp
                    have hB := hB.go gg (by omega)
                    have hr := (hr.go gg (Nat.le_refl _)).join hrE (by omega)
                    have hg := hg.trans gg
                    have hle3 := hs.2.1.2
                    have hge3 := gg.2.2.1.1
                    refine b_48_277 _ _ _ _ _ _ (by first | (exact hc_ai (by omega) (by first | assumption | (exact (ht9 (by assumption)).2.1) | (exact (ht9 (by assumption)).2.2.1) | (exact (ht9 (by assumption)).2.2.2) | rfl) (by decide)) | assumption | (exact (hc_far (by omega)).trans (by assumption))) (by omega) (by first | assumption | (exact ix_of (by omega) (by omega)) | (exact ⟨by decide, rfl, by decide⟩)) ?_
                    refine hw_W (hw_AI (by omega) (by first | assumption | (exact (ht9 (by assumption)).2.1) | (exact (ht9 (by assumption)).2.2.1) | (exact (ht9 (by assumption)).2.2.2) | rfl) (by decide)) ?_
                    show mi_W _ _ _ _ _ (n, sl, hc (cw 2 σ0.n (Int32.ofNat σ2.n) y3) f0) _
                    have hB := hB.w (k := 2) (v := Int32.ofNat σ2.n)
                    have hs := hs.w (k := 2) (m := σ0.n) (v := Int32.ofNat σ2.n)
                    have hg := hg.w (k := 2) (m := σ0.n) (v := Int32.ofNat σ2.n) (Nat.le_refl _)
                    have hr := hr.w (k := 2) (m := σ0.n) (v := Int32.ofNat σ2.n) (Nat.lt_succ_self _)
                    have e7 := (cw_ne (k := 2) (m := σ0.n) (v := Int32.ofNat σ2.n) (a := y3) (k' := 7) (m' := σ2.n) (fun z => by omega)).trans e7
                    generalize cw 2 σ0.n (Int32.ofNat σ2.n) y3 = y3 at *
                    refine b_48_278 _ _ _ ?_ ?_
                    · intro z278
                      first | (exact absurd z278 (by decide)) | (exact absurd (by decide) z278) | (exact absurd rfl z278) | (exact absurd z278 (of_nn (by omega))) | (exact absurd (of_np (by omega)) z278) | omega
                    · intro z278
                      refine b_48_282 _ _ _ ?_ ?_
                      · intro z282
                        first | (exact absurd z282 (by decide)) | (exact absurd (by decide) z282) | (exact absurd rfl z282) | (exact absurd z282 (of_nn (by omega))) | (exact absurd (of_np (by omega)) z282) | omega
                      · intro z282
                        refine b_48_288 _ _ _ (by first | (exact hc_o (by first | assumption | (exact ⟨by decide, rfl⟩))) | assumption | (exact (hc_far (by omega)).trans (by assumption))) (by omega) (by first | rfl | assumption) (by first | (exact hc_o (by first | assumption | (exact ⟨by decide, rfl⟩))) | assumption | (exact (hc_far (by omega)).trans (by assumption))) (by omega) (by first | rfl | assumption) (by first | (exact hc_o (by first | assumption | (exact ⟨by decide, rfl⟩))) | assumption | (exact (hc_far (by omega)).trans (by assumption))) (by omega) ?_
                        rw [hl2]
                        refine IH.1 (e + 8) _ _ _ (by omega) hs (fun y4 σ4 hok hs gg hrE e7 hlt => ?_) (fun w hw => ?_)
                        · rw [hok, ms_eb_ok] at hsp
                          have hB := hB.go gg (by omega)
                          have hr := (hr.go gg (Nat.le_refl _)).join hrE (by omega)
                          have hg := hg.trans gg
                          have hle4 := hs.2.1.2
                          have hge4 := gg.2.2.1.1
                          refine b_48_304 _ _ _ _ _ _ (by first | (exact hc_ai (by omega) (by first | assumption | (exact (ht9 (by assumption)).2.1) | (exact (ht9 (by assumption)).2.2.1) | (exact (ht9 (by assumption)).2.2.2) | rfl) (by decide)) | assumption | (exact (hc_far (by omega)).trans (by assumption))) (by omega) (by first | assumption | (exact ix_of (by omega) (by omega)) | (exact ⟨by decide, rfl, by decide⟩)) ?_
                          refine hw_W (hw_AI (by omega) (by first | assumption | (exact (ht9 (by assumption)).2.1) | (exact (ht9 (by assumption)).2.2.1) | (exact (ht9 (by assumption)).2.2.2) | rfl) (by decide)) ?_
                          show mi_W _ _ _ _ _ (n, sl, hc (cw 3 σ0.n (Int32.ofNat σ3.n) y4) f0) _
                          have hB := hB.w (k := 3) (v := Int32.ofNat σ3.n)
                          have hs := hs.w (k := 3) (m := σ0.n) (v := Int32.ofNat σ3.n)
                          have hg := hg.w (k := 3) (m := σ0.n) (v := Int32.ofNat σ3.n) (Nat.le_refl _)
                          have hr := hr.w (k := 3) (m := σ0.n) (v := Int32.ofNat σ3.n) (Nat.lt_succ_self _)
                          have e7 := (cw_ne (k := 3) (m := σ0.n) (v := Int32.ofNat σ3.n) (a := y4) (k' := 7) (m' := σ3.n) (fun z => by omega)).trans e7
                          generalize cw 3 σ0.n (Int32.ofNat σ3.n) y4 = y4 at *
                          refine b_48_305 _ _ _ _ _ _ (by first | (exact hc_o (by first | assumption | (exact ⟨by decide, rfl⟩))) | assumption | (exact (hc_far (by omega)).trans (by assumption))) (by omega) (by first | rfl | assumption) (by first | (exact hc_o (by first | assumption | (exact ⟨by decide, rfl⟩))) | assumption | (exact (hc_far (by omega)).trans (by assumption))) (by omega) (by first | rfl | assumption) (by first | (exact hc_o (by first | assumption | (exact ⟨by decide, rfl⟩))) | assumption | (exact (hc_far (by omega)).trans (by assumption))) (by omega) (by first | rfl | assumption) (by first | (exact hc_o (by first | assumption | (exact ⟨by decide, rfl⟩))) | assumption | (exact (hc_far (by omega)).trans (by assumption))) (by omega) (by first | rfl | assumption) (by first | (exact hc_ai (by omega) (by first | assumption | (exact (ht9 (by assumption)).2.1) | (exact (ht9 (by assumption)).2.2.1) | (exact (ht9 (by assumption)).2.2.2) | rfl) (by decide)) | assumption | (exact (hc_far (by omega)).trans (by assumption))) (by omega) (by first | assumption | (exact ix_of (by omega) (by omega)) | (exact ⟨by decide, rfl, by decide⟩)) ?_
                          refine hw_Q (hw_AI (by omega) (by first | assumption | (exact (ht9 (by assumption)).2.1) | (exact (ht9 (by assumption)).2.2.1) | (exact (ht9 (by assumption)).2.2.2) | rfl) (by decide)) ?_
                          have h11 := hs.2.1.1
                          show Q (.inl (some (.int (Int32.ofNat σ0.n)))) (n, sl, hc (cw 7 σ0.n (y4.I 2 3 11) y4) f0)
                          rw [h11]
                          have hB := hB.w (k := 7) (v := Int32.ofNat σ4.n)
                          have hr := hr.w (k := 7) (m := σ0.n) (v := Int32.ofNat σ4.n) (Nat.lt_succ_self _)
                          have e7 := (cw_ne (k := 7) (m := σ0.n) (v := Int32.ofNat σ4.n) (a := y4) (k' := 7) (m' := σ3.n) (fun z => by omega)).trans e7
                          refine ok _ _ hsp (hs.w.set) ((hg.w (Nat.le_refl _)).set (Nat.le_refl _)) (hr.one ⟨fun k hk9 h7 => ?_, ?_, ?_⟩ ?_ (by omega)) (hB.1 7 (by omega)) (by show σ0.n < σ4.n; omega)
                          · rcases lt9 hk9 with rfl | rfl | rfl | rfl | rfl | rfl | rfl | rfl | rfl <;> first | exact absurd rfl h7 | exact hB.1 _ hk9
                          · refine hB.2.trans (hv.trans ?_)
                            rw [hk]
                            rfl
                          · exact (hB.1 7 (by omega)).trans (e7.symm.trans (if_neg (show ¬ σ3.n = 0 by omega)).symm)
                          · exact Or.inr ⟨show σ0.n < σ3.n by omega, show σ3.n < σ4.n by omega⟩
                        · exact cEr.kc (by decide +kernel) (by omega) ((er w (by rw [hsp, hw]; rfl)).go hg.1)
                  · exact cEr.kc (by decide +kernel) (by omega) ((er w (by rw [hsp, hw]; rfl)).go hg.1)
                · exact cEr.kc (by decide +kernel) (by omega) ((er w (by rw [hsp, hw]; rfl)).go hg.1)
            · intro z214
              first | (exact absurd z214 (by decide)) | (exact absurd (by decide) z214) | (exact absurd rfl z214) | (exact absurd z214 (of_nn (by omega))) | (exact absurd (of_np (by omega)) z214) | omega
        · intro z181
          first | (exact absurd z181 (by decide)) | (exact absurd (by decide) z181) | (exact absurd rfl z181) | (exact absurd z181 (of_nn (by omega))) | (exact absurd (of_np (by omega)) z181) | omega
      · intro z158
        first | (exact absurd z158 (by decide)) | (exact absurd (by decide) z158) | (exact absurd rfl z158) | (exact absurd z158 (of_nn (by omega))) | (exact absurd (of_np (by omega)) z158) | omega
    · intro z111
      first | (exact absurd z111 (by decide)) | (exact absurd (by decide) z111) | (exact absurd rfl z111) | (exact absurd z111 (of_nn (by omega))) | (exact absurd (of_np (by omega)) z111) | omega
  · exact cEr.kc (by decide +kernel) (by omega) (er _ (ms_E_8 hk40 hop h8))
theorem ci_o10 {l2 : Int32} (hG : cG n sl f0) (hl2 : l2 + 1 = Int32.ofNat (101 - j)) (hj : j + 10 ≤ e + 9) (IH : cIE n sl f0 g L j) (h : cst a0 g L σ0) (hk : σ0.t.k = 37) (ok : cokE n sl f0 g L Q a0 σ0 (ms_E g L (j + 1) false σ0)) (er : cerE n sl f0 Q a0 (ms_E g L (j + 1) false σ0)) : mi_W (e + 9) 48 107 [some (.ref 15), some (.int l2), some (.int 37), some (.int 0), none] [] (n, sl, hc a0 f0) Q := by
  have hn := hG.1
  have hk40 : ¬ σ0.t.k = ms_kc 40 := by rw [hk]; decide
  have hop : ms_op false σ0.t.k = some 10 := by rw [hk]; decide +kernel
  unfold cokE at ok
  unfold cerE at er
  refine b_48_107 _ _ _ (by first | (exact hc_o (by first | assumption | (exact ⟨by decide, rfl⟩))) | assumption | (exact (hc_far (by omega)).trans (by assumption))) (by omega) ?_
  refine cr_node (d := e + 1) hG h (fun h8 y1 v hs hg hv hB => ?_) (fun h8 => ?_)
  · have hsp : ms_E g L (j + 1) false σ0 = .ok ((), (σ0.add.nx g L).set σ0.n (10, 0, 0, 0, σ0.t.v, 0, 0, 0, 0, 0)) := ms_E_o hk40 hop (by omega)
    rw [hk] at hB
    generalize hσ1 : σ0.add.nx g L = σ1 at *
    have hn1 : σ1.n = σ0.n + 1 := by rw [← hσ1]; rfl
    have hr : crg (σ0.n + 1) σ1.n y1 σ1.tb := by rw [hn1]; exact crg.nil
    have hx := ix_of (w := σ0.n) (m := 800) (by omega) (by omega)
    have hle1 := hs.2.1.2
    refine b_48_111 _ _ _ ?_ ?_
    · intro z111
      refine b_48_158 _ _ _ ?_ ?_
      · intro z158
        refine b_48_181 _ _ _ ?_ ?_
        · intro z181
          refine b_48_208 _ _ _ ?_ ?_
          · intro z208
            first | (exact absurd z208 (by decide)) | (exact absurd (by decide) z208) | (exact absurd rfl z208) | (exact absurd z208 (of_nn (by omega))) | (exact absurd (of_np (by omega)) z208) | omega
          · intro z208
            refine b_48_214 _ _ _ ?_ ?_
            · intro z214
              refine b_48_238 _ _ _ ?_ ?_
              · intro z238
                refine b_48_278 _ _ _ ?_ ?_
                · intro z278
                  first | (exact absurd z278 (by decide)) | (exact absurd (by decide) z278) | (exact absurd rfl z278) | (exact absurd z278 (of_nn (by omega))) | (exact absurd (of_np (by omega)) z278) | omega
                · intro z278
                  refine b_48_282 _ _ _ ?_ ?_
                  · intro z282
                    refine b_48_305 _ _ _ _ _ _ (by first | (exact hc_o (by first | assumption | (exact ⟨by decide, rfl⟩))) | assumption | (exact (hc_far (by omega)).trans (by assumption))) (by omega) (by first | rfl | assumption) (by first | (exact hc_o (by first | assumption | (exact ⟨by decide, rfl⟩))) | assumption | (exact (hc_far (by omega)).trans (by assumption))) (by omega) (by first | rfl | assumption) (by first | (exact hc_o (by first | assumption | (exact ⟨by decide, rfl⟩))) | assumption | (exact (hc_far (by omega)).trans (by assumption))) (by omega) (by first | rfl | assumption) (by first | (exact hc_o (by first | assumption | (exact ⟨by decide, rfl⟩))) | assumption | (exact (hc_far (by omega)).trans (by assumption))) (by omega) (by first | rfl | assumption) (by first | (exact hc_ai (by omega) (by first | assumption | (exact (ht9 (by assumption)).2.1) | (exact (ht9 (by assumption)).2.2.1) | (exact (ht9 (by assumption)).2.2.2) | rfl) (by decide)) | assumption | (exact (hc_far (by omega)).trans (by assumption))) (by omega) (by first | assumption | (exact ix_of (by omega) (by omega)) | (exact ⟨by decide, rfl, by decide⟩)) ?_
                    refine hw_Q (hw_AI (by omega) (by first | assumption | (exact (ht9 (by assumption)).2.1) | (exact (ht9 (by assumption)).2.2.1) | (exact (ht9 (by assumption)).2.2.2) | rfl) (by decide)) ?_
                    have h11 := hs.2.1.1
                    show Q (.inl (some (.int (Int32.ofNat σ0.n)))) (n, sl, hc (cw 7 σ0.n (y1.I 2 3 11) y1) f0)
                    rw [h11]
                    have hB := hB.w (k := 7) (v := Int32.ofNat σ1.n)
                    have hr := hr.w (k := 7) (m := σ0.n) (v := Int32.ofNat σ1.n) (Nat.lt_succ_self _)
                    refine ok _ _ hsp (hs.w.set) ((hg.w (Nat.le_refl _)).set (Nat.le_refl _)) (hr.one ⟨fun k hk9 h7 => ?_, ?_, ?_⟩ ?_ (by omega)) (hB.1 7 (by omega)) (by show σ0.n < σ1.n; omega)
                    · rcases lt9 hk9 with rfl | rfl | rfl | rfl | rfl | rfl | rfl | rfl | rfl <;> first | exact absurd rfl h7 | exact hB.1 _ hk9
                    · refine hB.2.trans (hv.trans ?_)
                      rw [hk]
                      rfl
                    · exact (hB.1 7 (by omega)).trans (congrArg Int32.ofNat (by omega : σ1.n = σ0.n + 1))
                    · exact Or.inl rfl
                  · intro z282
                    first | (exact absurd z282 (by decide)) | (exact absurd (by decide) z282) | (exact absurd rfl z282) | (exact absurd z282 (of_nn (by omega))) | (exact absurd (of_np (by omega)) z282) | omega
              · intro z238
                first | (exact absurd z238 (by decide)) | (exact absurd (by decide) z238) | (exact absurd rfl z238) | (exact absurd z238 (of_nn (by omega))) | (exact absurd (of_np (by omega)) z238) | omega
            · intro z214
              first | (exact absurd z214 (by decide)) | (exact absurd (by decide) z214) | (exact absurd rfl z214) | (exact absurd z214 (of_nn (by omega))) | (exact absurd (of_np (by omega)) z214) | omega
        · intro z181
          first | (exact absurd z181 (by decide)) | (exact absurd (by decide) z181) | (exact absurd rfl z181) | (exact absurd z181 (of_nn (by omega))) | (exact absurd (of_np (by omega)) z181) | omega
      · intro z158
        first | (exact absurd z158 (by decide)) | (exact absurd (by decide) z158) | (exact absurd rfl z158) | (exact absurd z158 (of_nn (by omega))) | (exact absurd (of_np (by omega)) z158) | omega
    · intro z111
      first | (exact absurd z111 (by decide)) | (exact absurd (by decide) z111) | (exact absurd rfl z111) | (exact absurd z111 (of_nn (by omega))) | (exact absurd (of_np (by omega)) z111) | omega
  · exact cEr.kc (by decide +kernel) (by omega) (er _ (ms_E_8 hk40 hop h8))
theorem ci_o19 {l2 : Int32} (hG : cG n sl f0) (hl2 : l2 + 1 = Int32.ofNat (101 - j)) (hj : j + 10 ≤ e + 9) (IH : cIE n sl f0 g L j) (h : cst a0 g L σ0) (hk : σ0.t.k = 15) (ok : cokE n sl f0 g L Q a0 σ0 (ms_E g L (j + 1) false σ0)) (er : cerE n sl f0 Q a0 (ms_E g L (j + 1) false σ0)) : mi_W (e + 9) 48 107 [some (.ref 15), some (.int l2), some (.int 15), some (.int 0), none] [] (n, sl, hc a0 f0) Q := by
  have hn := hG.1
  have hk40 : ¬ σ0.t.k = ms_kc 40 := by rw [hk]; decide
  have hop : ms_op false σ0.t.k = some 19 := by rw [hk]; decide +kernel
  unfold cokE at ok
  unfold cerE at er
  refine b_48_107 _ _ _ (by first | (exact hc_o (by first | assumption | (exact ⟨by decide, rfl⟩))) | assumption | (exact (hc_far (by omega)).trans (by assumption))) (by omega) ?_
  refine cr_node (d := e + 1) hG h (fun h8 y1 v hs hg hv hB => ?_) (fun h8 => ?_)
  · have hsp : ms_E g L (j + 1) false σ0 = .ok ((), (σ0.add.nx g L).set σ0.n (19, 0, 0, 0, 0, 0, 0, 0, 0, 0)) := ms_E_o hk40 hop (by omega)
    rw [hk] at hB
    generalize hσ1 : σ0.add.nx g L = σ1 at *
    have hn1 : σ1.n = σ0.n + 1 := by rw [← hσ1]; rfl
    have hr : crg (σ0.n + 1) σ1.n y1 σ1.tb := by rw [hn1]; exact crg.nil
    have hx := ix_of (w := σ0.n) (m := 800) (by omega) (by omega)
    have hle1 := hs.2.1.2
    refine b_48_111 _ _ _ ?_ ?_
    · intro z111
      refine b_48_158 _ _ _ ?_ ?_
      · intro z158
        refine b_48_181 _ _ _ ?_ ?_
        · intro z181
          refine b_48_208 _ _ _ ?_ ?_
          · intro z208
            first | (exact absurd z208 (by decide)) | (exact absurd (by decide) z208) | (exact absurd rfl z208) | (exact absurd z208 (of_nn (by omega))) | (exact absurd (of_np (by omega)) z208) | omega
          · intro z208
            refine b_48_214 _ _ _ ?_ ?_
            · intro z214
              refine b_48_238 _ _ _ ?_ ?_
              · intro z238
                refine b_48_278 _ _ _ ?_ ?_
                · intro z278
                  first | (exact absurd z278 (by decide)) | (exact absurd (by decide) z278) | (exact absurd rfl z278) | (exact absurd z278 (of_nn (by omega))) | (exact absurd (of_np (by omega)) z278) | omega
                · intro z278
                  refine b_48_282 _ _ _ ?_ ?_
                  · intro z282
                    refine b_48_305 _ _ _ _ _ _ (by first | (exact hc_o (by first | assumption | (exact ⟨by decide, rfl⟩))) | assumption | (exact (hc_far (by omega)).trans (by assumption))) (by omega) (by first | rfl | assumption) (by first | (exact hc_o (by first | assumption | (exact ⟨by decide, rfl⟩))) | assumption | (exact (hc_far (by omega)).trans (by assumption))) (by omega) (by first | rfl | assumption) (by first | (exact hc_o (by first | assumption | (exact ⟨by decide, rfl⟩))) | assumption | (exact (hc_far (by omega)).trans (by assumption))) (by omega) (by first | rfl | assumption) (by first | (exact hc_o (by first | assumption | (exact ⟨by decide, rfl⟩))) | assumption | (exact (hc_far (by omega)).trans (by assumption))) (by omega) (by first | rfl | assumption) (by first | (exact hc_ai (by omega) (by first | assumption | (exact (ht9 (by assumption)).2.1) | (exact (ht9 (by assumption)).2.2.1) | (exact (ht9 (by assumption)).2.2.2) | rfl) (by decide)) | assumption | (exact (hc_far (by omega)).trans (by assumption))) (by omega) (by first | assumption | (exact ix_of (by omega) (by omega)) | (exact ⟨by decide, rfl, by decide⟩)) ?_
                    refine hw_Q (hw_AI (by omega) (by first | assumption | (exact (ht9 (by assumption)).2.1) | (exact (ht9 (by assumption)).2.2.1) | (exact (ht9 (by assumption)).2.2.2) | rfl) (by decide)) ?_
                    have h11 := hs.2.1.1
                    show Q (.inl (some (.int (Int32.ofNat σ0.n)))) (n, sl, hc (cw 7 σ0.n (y1.I 2 3 11) y1) f0)
                    rw [h11]
                    have hB := hB.w (k := 7) (v := Int32.ofNat σ1.n)
                    have hr := hr.w (k := 7) (m := σ0.n) (v := Int32.ofNat σ1.n) (Nat.lt_succ_self _)
                    refine ok _ _ hsp (hs.w.set) ((hg.w (Nat.le_refl _)).set (Nat.le_refl _)) (hr.one ⟨fun k hk9 h7 => ?_, ?_, ?_⟩ ?_ (by omega)) (hB.1 7 (by omega)) (by show σ0.n < σ1.n; omega)
                    · rcases lt9 hk9 with rfl | rfl | rfl | rfl | rfl | rfl | rfl | rfl | rfl <;> first | exact absurd rfl h7 | exact hB.1 _ hk9
                    · refine hB.2.trans (hv.trans ?_)
                      rw [hk]
                      rfl
                    · exact (hB.1 7 (by omega)).trans (congrArg Int32.ofNat (by omega : σ1.n = σ0.n + 1))
                    · exact Or.inl rfl
                  · intro z282
                    first | (exact absurd z282 (by decide)) | (exact absurd (by decide) z282) | (exact absurd rfl z282) | (exact absurd z282 (of_nn (by omega))) | (exact absurd (of_np (by omega)) z282) | omega
              · intro z238
                first | (exact absurd z238 (by decide)) | (exact absurd (by decide) z238) | (exact absurd rfl z238) | (exact absurd z238 (of_nn (by omega))) | (exact absurd (of_np (by omega)) z238) | omega
            · intro z214
              first | (exact absurd z214 (by decide)) | (exact absurd (by decide) z214) | (exact absurd rfl z214) | (exact absurd z214 (of_nn (by omega))) | (exact absurd (of_np (by omega)) z214) | omega
        · intro z181
          first | (exact absurd z181 (by decide)) | (exact absurd (by decide) z181) | (exact absurd rfl z181) | (exact absurd z181 (of_nn (by omega))) | (exact absurd (of_np (by omega)) z181) | omega
      · intro z158
        first | (exact absurd z158 (by decide)) | (exact absurd (by decide) z158) | (exact absurd rfl z158) | (exact absurd z158 (of_nn (by omega))) | (exact absurd (of_np (by omega)) z158) | omega
    · intro z111
      first | (exact absurd z111 (by decide)) | (exact absurd (by decide) z111) | (exact absurd rfl z111) | (exact absurd z111 (of_nn (by omega))) | (exact absurd (of_np (by omega)) z111) | omega
  · exact cEr.kc (by decide +kernel) (by omega) (er _ (ms_E_8 hk40 hop h8))
theorem ci_o20 {l2 : Int32} (hG : cG n sl f0) (hl2 : l2 + 1 = Int32.ofNat (101 - j)) (hj : j + 10 ≤ e + 9) (IH : cIE n sl f0 g L j) (h : cst a0 g L σ0) (hk : σ0.t.k = 16) (ok : cokE n sl f0 g L Q a0 σ0 (ms_E g L (j + 1) false σ0)) (er : cerE n sl f0 Q a0 (ms_E g L (j + 1) false σ0)) : mi_W (e + 9) 48 107 [some (.ref 15), some (.int l2), some (.int 16), some (.int 0), none] [] (n, sl, hc a0 f0) Q := by
  have hn := hG.1
  have hk40 : ¬ σ0.t.k = ms_kc 40 := by rw [hk]; decide
  have hop : ms_op false σ0.t.k = some 20 := by rw [hk]; decide +kernel
  unfold cokE at ok
  unfold cerE at er
  refine b_48_107 _ _ _ (by first | (exact hc_o (by first | assumption | (exact ⟨by decide, rfl⟩))) | assumption | (exact (hc_far (by omega)).trans (by assumption))) (by omega) ?_
  refine cr_node (d := e + 1) hG h (fun h8 y1 v hs hg hv hB => ?_) (fun h8 => ?_)
  · have hsp : ms_E g L (j + 1) false σ0 = .ok ((), (σ0.add.nx g L).set σ0.n (20, 0, 0, 0, 0, 0, 0, 0, 0, 0)) := ms_E_o hk40 hop (by omega)
    rw [hk] at hB
    generalize hσ1 : σ0.add.nx g L = σ1 at *
    have hn1 : σ1.n = σ0.n + 1 := by rw [← hσ1]; rfl
    have hr : crg (σ0.n + 1) σ1.n y1 σ1.tb := by rw [hn1]; exact crg.nil
    have hx := ix_of (w := σ0.n) (m := 800) (by omega) (by omega)
    have hle1 := hs.2.1.2
    refine b_48_111 _ _ _ ?_ ?_
    · intro z111
      refine b_48_158 _ _ _ ?_ ?_
      · intro z158
        refine b_48_181 _ _ _ ?_ ?_
        · intro z181
          refine b_48_208 _ _ _ ?_ ?_
          · intro z208
            first | (exact absurd z208 (by decide)) | (exact absurd (by decide) z208) | (exact absurd rfl z208) | (exact absurd z208 (of_nn (by omega))) | (exact absurd (of_np (by omega)) z208) | omega
          · intro z208
            refine b_48_214 _ _ _ ?_ ?_
            · intro z214
              refine b_48_238 _ _ _ ?_ ?_
              · intro z238
                refine b_48_278 _ _ _ ?_ ?_
                · intro z278
                  first | (exact absurd z278 (by decide)) | (exact absurd (by decide) z278) | (exact absurd rfl z278) | (exact absurd z278 (of_nn (by omega))) | (exact absurd (of_np (by omega)) z278) | omega
                · intro z278
                  refine b_48_282 _ _ _ ?_ ?_
                  · intro z282
                    refine b_48_305 _ _ _ _ _ _ (by first | (exact hc_o (by first | assumption | (exact ⟨by decide, rfl⟩))) | assumption | (exact (hc_far (by omega)).trans (by assumption))) (by omega) (by first | rfl | assumption) (by first | (exact hc_o (by first | assumption | (exact ⟨by decide, rfl⟩))) | assumption | (exact (hc_far (by omega)).trans (by assumption))) (by omega) (by first | rfl | assumption) (by first | (exact hc_o (by first | assumption | (exact ⟨by decide, rfl⟩))) | assumption | (exact (hc_far (by omega)).trans (by assumption))) (by omega) (by first | rfl | assumption) (by first | (exact hc_o (by first | assumption | (exact ⟨by decide, rfl⟩))) | assumption | (exact (hc_far (by omega)).trans (by assumption))) (by omega) (by first | rfl | assumption) (by first | (exact hc_ai (by omega) (by first | assumption | (exact (ht9 (by assumption)).2.1) | (exact (ht9 (by assumption)).2.2.1) | (exact (ht9 (by assumption)).2.2.2) | rfl) (by decide)) | assumption | (exact (hc_far (by omega)).trans (by assumption))) (by omega) (by first | assumption | (exact ix_of (by omega) (by omega)) | (exact ⟨by decide, rfl, by decide⟩)) ?_
                    refine hw_Q (hw_AI (by omega) (by first | assumption | (exact (ht9 (by assumption)).2.1) | (exact (ht9 (by assumption)).2.2.1) | (exact (ht9 (by assumption)).2.2.2) | rfl) (by decide)) ?_
                    have h11 := hs.2.1.1
                    show Q (.inl (some (.int (Int32.ofNat σ0.n)))) (n, sl, hc (cw 7 σ0.n (y1.I 2 3 11) y1) f0)
                    rw [h11]
                    have hB := hB.w (k := 7) (v := Int32.ofNat σ1.n)
                    have hr := hr.w (k := 7) (m := σ0.n) (v := Int32.ofNat σ1.n) (Nat.lt_succ_self _)
                    refine ok _ _ hsp (hs.w.set) ((hg.w (Nat.le_refl _)).set (Nat.le_refl _)) (hr.one ⟨fun k hk9 h7 => ?_, ?_, ?_⟩ ?_ (by omega)) (hB.1 7 (by omega)) (by show σ0.n < σ1.n; omega)
                    · rcases lt9 hk9 with rfl | rfl | rfl | rfl | rfl | rfl | rfl | rfl | rfl <;> first | exact absurd rfl h7 | exact hB.1 _ hk9
                    · refine hB.2.trans (hv.trans ?_)
                      rw [hk]
                      rfl
                    · exact (hB.1 7 (by omega)).trans (congrArg Int32.ofNat (by omega : σ1.n = σ0.n + 1))
                    · exact Or.inl rfl
                  · intro z282
                    first | (exact absurd z282 (by decide)) | (exact absurd (by decide) z282) | (exact absurd rfl z282) | (exact absurd z282 (of_nn (by omega))) | (exact absurd (of_np (by omega)) z282) | omega
              · intro z238
                first | (exact absurd z238 (by decide)) | (exact absurd (by decide) z238) | (exact absurd rfl z238) | (exact absurd z238 (of_nn (by omega))) | (exact absurd (of_np (by omega)) z238) | omega
            · intro z214
              first | (exact absurd z214 (by decide)) | (exact absurd (by decide) z214) | (exact absurd rfl z214) | (exact absurd z214 (of_nn (by omega))) | (exact absurd (of_np (by omega)) z214) | omega
        · intro z181
          first | (exact absurd z181 (by decide)) | (exact absurd (by decide) z181) | (exact absurd rfl z181) | (exact absurd z181 (of_nn (by omega))) | (exact absurd (of_np (by omega)) z181) | omega
      · intro z158
        first | (exact absurd z158 (by decide)) | (exact absurd (by decide) z158) | (exact absurd rfl z158) | (exact absurd z158 (of_nn (by omega))) | (exact absurd (of_np (by omega)) z158) | omega
    · intro z111
      first | (exact absurd z111 (by decide)) | (exact absurd (by decide) z111) | (exact absurd rfl z111) | (exact absurd z111 (of_nn (by omega))) | (exact absurd (of_np (by omega)) z111) | omega
  · exact cEr.kc (by decide +kernel) (by omega) (er _ (ms_E_8 hk40 hop h8))
theorem ci_o28 {l2 : Int32} (hG : cG n sl f0) (hl2 : l2 + 1 = Int32.ofNat (101 - j)) (hj : j + 10 ≤ e + 9) (IH : cIE n sl f0 g L j) (h : cst a0 g L σ0) (hk : σ0.t.k = 35) (ok : cokE n sl f0 g L Q a0 σ0 (ms_E g L (j + 1) true σ0)) (er : cerE n sl f0 Q a0 (ms_E g L (j + 1) true σ0)) : mi_W (e + 9) 50 101 [some (.ref 15), some (.int l2), some (.int 35), some (.int 1), none] [] (n, sl, hc a0 f0) Q := by
  have hn := hG.1
  have hk40 : ¬ σ0.t.k = ms_kc 40 := by rw [hk]; decide
  have hop : ms_op true σ0.t.k = some 28 := by rw [hk]; decide +kernel
  unfold cokE at ok
  unfold cerE at er
  refine b_50_101 _ _ _ (by first | (exact hc_o (by first | assumption | (exact ⟨by decide, rfl⟩))) | assumption | (exact (hc_far (by omega)).trans (by assumption))) (by omega) ?_
  refine cr_node (d := e + 1) hG h (fun h8 y1 v hs hg hv hB => ?_) (fun h8 => ?_)
  · have hsp : ms_E g L (j + 1) true σ0 = ms_eb (ms_E g L j false (σ0.add.nx g L)) (fun _ σ1 => ms_eb (ms_E g L j false σ1) (fun _ σ2 => .ok ((), σ2.set σ0.n (28, 0, 0, 0, 0, (σ0.add.nx g L).n, σ1.n, 0, 0, 0)))) := ms_E_o hk40 hop (by omega)
    rw [hk] at hB
    generalize hσ1 : σ0.add.nx g L = σ1 at *
    have hn1 : σ1.n = σ0.n + 1 := by rw [← hσ1]; rfl
    have hr : crg (σ0.n + 1) σ1.n y1 σ1.tb := by rw [hn1]; exact crg.nil
    have hx := ix_of (w := σ0.n) (m := 800) (by omega) (by omega)
    have hle1 := hs.2.1.2
    refine b_50_105 _ _ _ ?_ ?_
    · intro z105
      first | (exact absurd z105 (by decide)) | (exact absurd (by decide) z105) | (exact absurd rfl z105) | (exact absurd z105 (of_nn (by omega))) | (exact absurd (of_np (by omega)) z105) | omega
    · intro z105
      refine b_50_111 _ _ _ (by first | (exact hc_o (by first | assumption | (exact ⟨by decide, rfl⟩))) | assumption | (exact (hc_far (by omega)).trans (by assumption))) (by omega) (by first | rfl | assumption) (by first | (exact hc_o (by first | assumption | (exact ⟨by decide, rfl⟩))) | assumption | (exact (hc_far (by omega)).trans (by assumption))) (by omega) (by first | rfl | assumption) (by first | (exact hc_o (by first | assumption | (exact ⟨by decide, rfl⟩))) | assumption | (exact (hc_far (by omega)).trans (by assumption))) (by omega) ?_
      rw [hl2]
      refine IH.1 (e + 8) _ _ _ (by omega) hs (fun y2 σ2 hok hs gg hrE e7 hlt => ?_) (fun w hw => ?_)
      · rw [hok, ms_eb_ok] at hsp
        have hB := hB.go gg (by omega)
        have hr := (hr.go gg (Nat.le_refl _)).join hrE (by omega)
        have hg := hg.trans gg
        have hle2 := hs.2.1.2
        have hge2 := gg.2.2.1.1
        refine b_50_127 _ _ _ _ _ _ (by first | (exact hc_ai (by omega) (by first | assumption | (exact (ht9 (by assumption)).2.1) | (exact (ht9 (by assumption)).2.2.1) | (exact (ht9 (by assumption)).2.2.2) | rfl) (by decide)) | assumption | (exact (hc_far (by omega)).trans (by assumption))) (by omega) (by first | assumption | (exact ix_of (by omega) (by omega)) | (exact ⟨by decide, rfl, by decide⟩)) (by first | (exact (congrFun (hw_AI (by omega) (by first | assumption | (exact (ht9 (by assumption)).2.1) | (exact (ht9 (by assumption)).2.2.1) | (exact (ht9 (by assumption)).2.2.2) | rfl) (by decide)) _).trans (hc_o (by first | assumption | (exact ⟨by decide, rfl⟩)))) | assumption | (exact (hc_far (by omega)).trans (by assumption))) (by omega) (by first | rfl | assumption) (by first | (exact (congrFun (hw_AI (by omega) (by first | assumption | (exact (ht9 (by assumption)).2.1) | (exact (ht9 (by assumption)).2.2.1) | (exact (ht9 (by assumption)).2.2.2) | rfl) (by decide)) _).trans (hc_o (by first | assumption | (exact ⟨by decide, rfl⟩)))) | assumption | (exact (hc_far (by omega)).trans (by assumption))) (by omega) (by first | rfl | assumption) (by first | (exact (congrFun (hw_AI (by omega) (by first | assumption | (exact (ht9 (by assumption)).2.1) | (exact (ht9 (by assumption)).2.2.1) | (exact (ht9 (by assumption)).2.2.2) | rfl) (by decide)) _).trans (hc_o (by first | assumption | (exact ⟨by decide, rfl⟩)))) | assumption | (exact (hc_far (by omega)).trans (by assumption))) (by omega) ?_
        refine hw_W (hw_AI (by omega) (by first | assumption | (exact (ht9 (by assumption)).2.1) | (exact (ht9 (by assumption)).2.2.1) | (exact (ht9 (by assumption)).2.2.2) | rfl) (by decide)) ?_
        show mi_W _ _ _ _ _ (n, sl, hc (cw 1 σ0.n (Int32.ofNat σ1.n) y2) f0) _
        have hB := hB.w (k := 1) (v := Int32.ofNat σ1.n)
        have hs := hs.w (k := 1) (m := σ0.n) (v := Int32.ofNat σ1.n)
        have hg := hg.w (k := 1) (m := σ0.n) (v := Int32.ofNat σ1.n) (Nat.le_refl _)
        have hr := hr.w (k := 1) (m := σ0.n) (v := Int32.ofNat σ1.n) (Nat.lt_succ_self _)
        have e7 := (cw_ne (k := 1) (m := σ0.n) (v := Int32.ofNat σ1.n) (a := y2) (k' := 7) (m' := σ1.n) (fun z => by omega)).trans e7
        generalize cw 1 σ0.n (Int32.ofNat σ1.n) y2 = y2 at *
        rw [hl2]
        refine IH.1 (e + 8) _ _ _ (by omega) hs (fun y3 σ3 hok hs gg hrE e7 hlt => ?_) (fun w hw => ?_)
        · rw [hok, ms_eb_ok] at hsp
          have hB := hB.go gg (by omega)
          have hr := (hr.go gg (Nat.le_refl _)).join hrE (by omega)
          have hg := hg.trans gg
          have hle3 := hs.2.1.2
          have hge3 := gg.2.2.1.1
          refine b_50_144 _ _ _ _ _ _ (by first | (exact hc_ai (by omega) (by first | assumption | (exact (ht9 (by assumption)).2.1) | (exact (ht9 (by assumption)).2.2.1) | (exact (ht9 (by assumption)).2.2.2) | rfl) (by decide)) | assumption | (exact (hc_far (by omega)).trans (by assumption))) (by omega) (by first | assumption | (exact ix_of (by omega) (by omega)) | (exact ⟨by decide, rfl, by decide⟩)) ?_
          refine hw_W (hw_AI (by omega) (by first | assumption | (exact (ht9 (by assumption)).2.1) | (exact (ht9 (by assumption)).2.2.1) | (exact (ht9 (by assumption)).2.2.2) | rfl) (by decide)) ?_
          show mi_W _ _ _ _ _ (n, sl, hc (cw 3 σ0.n (Int32.ofNat σ2.n) y3) f0) _
          have hB := hB.w (k := 3) (v := Int32.ofNat σ2.n)
          have hs := hs.w (k := 3) (m := σ0.n) (v := Int32.ofNat σ2.n)
          have hg := hg.w (k := 3) (m := σ0.n) (v := Int32.ofNat σ2.n) (Nat.le_refl _)
          have hr := hr.w (k := 3) (m := σ0.n) (v := Int32.ofNat σ2.n) (Nat.lt_succ_self _)
          have e7 := (cw_ne (k := 3) (m := σ0.n) (v := Int32.ofNat σ2.n) (a := y3) (k' := 7) (m' := σ2.n) (fun z => by omega)).trans e7
          generalize cw 3 σ0.n (Int32.ofNat σ2.n) y3 = y3 at *
          refine b_50_243 _ _ _ _ _ _ (by first | (exact hc_o (by first | assumption | (exact ⟨by decide, rfl⟩))) | assumption | (exact (hc_far (by omega)).trans (by assumption))) (by omega) (by first | rfl | assumption) (by first | (exact hc_o (by first | assumption | (exact ⟨by decide, rfl⟩))) | assumption | (exact (hc_far (by omega)).trans (by assumption))) (by omega) (by first | rfl | assumption) (by first | (exact hc_o (by first | assumption | (exact ⟨by decide, rfl⟩))) | assumption | (exact (hc_far (by omega)).trans (by assumption))) (by omega) (by first | rfl | assumption) (by first | (exact hc_o (by first | assumption | (exact ⟨by decide, rfl⟩))) | assumption | (exact (hc_far (by omega)).trans (by assumption))) (by omega) (by first | rfl | assumption) (by first | (exact hc_ai (by omega) (by first | assumption | (exact (ht9 (by assumption)).2.1) | (exact (ht9 (by assumption)).2.2.1) | (exact (ht9 (by assumption)).2.2.2) | rfl) (by decide)) | assumption | (exact (hc_far (by omega)).trans (by assumption))) (by omega) (by first | assumption | (exact ix_of (by omega) (by omega)) | (exact ⟨by decide, rfl, by decide⟩)) ?_
          refine hw_Q (hw_AI (by omega) (by first | assumption | (exact (ht9 (by assumption)).2.1) | (exact (ht9 (by assumption)).2.2.1) | (exact (ht9 (by assumption)).2.2.2) | rfl) (by decide)) ?_
          have h11 := hs.2.1.1
          show Q (.inl (some (.int (Int32.ofNat σ0.n)))) (n, sl, hc (cw 7 σ0.n (y3.I 2 3 11) y3) f0)
          rw [h11]
          have hB := hB.w (k := 7) (v := Int32.ofNat σ3.n)
          have hr := hr.w (k := 7) (m := σ0.n) (v := Int32.ofNat σ3.n) (Nat.lt_succ_self _)
          have e7 := (cw_ne (k := 7) (m := σ0.n) (v := Int32.ofNat σ3.n) (a := y3) (k' := 7) (m' := σ2.n) (fun z => by omega)).trans e7
          refine ok _ _ hsp (hs.w.set) ((hg.w (Nat.le_refl _)).set (Nat.le_refl _)) (hr.one ⟨fun k hk9 h7 => ?_, ?_, ?_⟩ ?_ (by omega)) (hB.1 7 (by omega)) (by show σ0.n < σ3.n; omega)
          · rcases lt9 hk9 with rfl | rfl | rfl | rfl | rfl | rfl | rfl | rfl | rfl <;> first | exact absurd rfl h7 | exact hB.1 _ hk9
          · refine hB.2.trans (hv.trans ?_)
            rw [hk]
            rfl
          · exact (hB.1 7 (by omega)).trans (e7.symm.trans (if_neg (show ¬ σ2.n = 0 by omega)).symm)
          · exact Or.inr ⟨show σ0.n < σ2.n by omega, show σ2.n < σ3.n by omega⟩
        · exact cEr.kc (by decide +kernel) (by omega) ((er w (by rw [hsp, hw]; rfl)).go hg.1)
      · exact cEr.kc (by decide +kernel) (by omega) ((er w (by rw [hsp, hw]; rfl)).go hg.1)
  · exact cEr.kc (by decide +kernel) (by omega) (er _ (ms_E_8 hk40 hop h8))
theorem ci_o29 {l2 : Int32} (hG : cG n sl f0) (hl2 : l2 + 1 = Int32.ofNat (101 - j)) (hj : j + 10 ≤ e + 9) (IH : cIE n sl f0 g L j) (h : cst a0 g L σ0) (hk : σ0.t.k = 34) (ok : cokE n sl f0 g L Q a0 σ0 (ms_E g L (j + 1) true σ0)) (er : cerE n sl f0 Q a0 (ms_E g L (j + 1) true σ0)) : mi_W (e + 9) 50 101 [some (.ref 15), some (.int l2), some (.int 34), some (.int 1), none] [] (n, sl, hc a0 f0) Q := by
  have hn := hG.1
  have hk40 : ¬ σ0.t.k = ms_kc 40 := by rw [hk]; decide
  have hop : ms_op true σ0.t.k = some 29 := by rw [hk]; decide +kernel
  unfold cokE at ok
  unfold cerE at er
  refine b_50_101 _ _ _ (by first | (exact hc_o (by first | assumption | (exact ⟨by decide, rfl⟩))) | assumption | (exact (hc_far (by omega)).trans (by assumption))) (by omega) ?_
  refine cr_node (d := e + 1) hG h (fun h8 y1 v hs hg hv hB => ?_) (fun h8 => ?_)
  · have hsp : ms_E g L (j + 1) true σ0 = ms_eb (ms_E g L j false (σ0.add.nx g L)) (fun _ σ1 => ms_eb (ms_E g L j false σ1) (fun _ σ2 => .ok ((), σ2.set σ0.n (29, 0, 0, 0, 0, (σ0.add.nx g L).n, σ1.n, 0, 0, 0)))) := ms_E_o hk40 hop (by omega)
    rw [hk] at hB
    generalize hσ1 : σ0.add.nx g L = σ1 at *
    have hn1 : σ1.n = σ0.n + 1 := by rw [← hσ1]; rfl
    have hr : crg (σ0.n + 1) σ1.n y1 σ1.tb := by rw [hn1]; exact crg.nil
    have hx := ix_of (w := σ0.n) (m := 800) (by omega) (by omega)
    have hle1 := hs.2.1.2
    refine b_50_105 _ _ _ ?_ ?_
    · intro z105
      first | (exact absurd z105 (by decide)) | (exact absurd (by decide) z105) | (exact absurd rfl z105) | (exact absurd z105 (of_nn (by omega))) | (exact absurd (of_np (by omega)) z105) | omega
    · intro z105
      refine b_50_111 _ _ _ (by first | (exact hc_o (by first | assumption | (exact ⟨by decide, rfl⟩))) | assumption | (exact (hc_far (by omega)).trans (by assumption))) (by omega) (by first | rfl | assumption) (by first | (exact hc_o (by first | assumption | (exact ⟨by decide, rfl⟩))) | assumption | (exact (hc_far (by omega)).trans (by assumption))) (by omega) (by first | rfl | assumption) (by first | (exact hc_o (by first | assumption | (exact ⟨by decide, rfl⟩))) | assumption | (exact (hc_far (by omega)).trans (by assumption))) (by omega) ?_
      rw [hl2]
      refine IH.1 (e + 8) _ _ _ (by omega) hs (fun y2 σ2 hok hs gg hrE e7 hlt => ?_) (fun w hw => ?_)
      · rw [hok, ms_eb_ok] at hsp
        have hB := hB.go gg (by omega)
        have hr := (hr.go gg (Nat.le_refl _)).join hrE (by omega)
        have hg := hg.trans gg
        have hle2 := hs.2.1.2
        have hge2 := gg.2.2.1.1
        refine b_50_127 _ _ _ _ _ _ (by first | (exact hc_ai (by omega) (by first | assumption | (exact (ht9 (by assumption)).2.1) | (exact (ht9 (by assumption)).2.2.1) | (exact (ht9 (by assumption)).2.2.2) | rfl) (by decide)) | assumption | (exact (hc_far (by omega)).trans (by assumption))) (by omega) (by first | assumption | (exact ix_of (by omega) (by omega)) | (exact ⟨by decide, rfl, by decide⟩)) (by first | (exact (congrFun (hw_AI (by omega) (by first | assumption | (exact (ht9 (by assumption)).2.1) | (exact (ht9 (by assumption)).2.2.1) | (exact (ht9 (by assumption)).2.2.2) | rfl) (by decide)) _).trans (hc_o (by first | assumption | (exact ⟨by decide, rfl⟩)))) | assumption | (exact (hc_far (by omega)).trans (by assumption))) (by omega) (by first | rfl | assumption) (by first | (exact (congrFun (hw_AI (by omega) (by first | assumption | (exact (ht9 (by assumption)).2.1) | (exact (ht9 (by assumption)).2.2.1) | (exact (ht9 (by assumption)).2.2.2) | rfl) (by decide)) _).trans (hc_o (by first | assumption | (exact ⟨by decide, rfl⟩)))) | assumption | (exact (hc_far (by omega)).trans (by assumption))) (by omega) (by first | rfl | assumption) (by first | (exact (congrFun (hw_AI (by omega) (by first | assumption | (exact (ht9 (by assumption)).2.1) | (exact (ht9 (by assumption)).2.2.1) | (exact (ht9 (by assumption)).2.2.2) | rfl) (by decide)) _).trans (hc_o (by first | assumption | (exact ⟨by decide, rfl⟩)))) | assumption | (exact (hc_far (by omega)).trans (by assumption))) (by omega) ?_
        refine hw_W (hw_AI (by omega) (by first | assumption | (exact (ht9 (by assumption)).2.1) | (exact (ht9 (by assumption)).2.2.1) | (exact (ht9 (by assumption)).2.2.2) | rfl) (by decide)) ?_
        show mi_W _ _ _ _ _ (n, sl, hc (cw 1 σ0.n (Int32.ofNat σ1.n) y2) f0) _
        have hB := hB.w (k := 1) (v := Int32.ofNat σ1.n)
        have hs := hs.w (k := 1) (m := σ0.n) (v := Int32.ofNat σ1.n)
        have hg := hg.w (k := 1) (m := σ0.n) (v := Int32.ofNat σ1.n) (Nat.le_refl _)
        have hr := hr.w (k := 1) (m := σ0.n) (v := Int32.ofNat σ1.n) (Nat.lt_succ_self _)
        have e7 := (cw_ne (k := 1) (m := σ0.n) (v := Int32.ofNat σ1.n) (a := y2) (k' := 7) (m' := σ1.n) (fun z => by omega)).trans e7
        generalize cw 1 σ0.n (Int32.ofNat σ1.n) y2 = y2 at *
        rw [hl2]
        refine IH.1 (e + 8) _ _ _ (by omega) hs (fun y3 σ3 hok hs gg hrE e7 hlt => ?_) (fun w hw => ?_)
        · rw [hok, ms_eb_ok] at hsp
          have hB := hB.go gg (by omega)
          have hr := (hr.go gg (Nat.le_refl _)).join hrE (by omega)
          have hg := hg.trans gg
          have hle3 := hs.2.1.2
          have hge3 := gg.2.2.1.1
          refine b_50_144 _ _ _ _ _ _ (by first | (exact hc_ai (by omega) (by first | assumption | (exact (ht9 (by assumption)).2.1) | (exact (ht9 (by assumption)).2.2.1) | (exact (ht9 (by assumption)).2.2.2) | rfl) (by decide)) | assumption | (exact (hc_far (by omega)).trans (by assumption))) (by omega) (by first | assumption | (exact ix_of (by omega) (by omega)) | (exact ⟨by decide, rfl, by decide⟩)) ?_
          refine hw_W (hw_AI (by omega) (by first | assumption | (exact (ht9 (by assumption)).2.1) | (exact (ht9 (by assumption)).2.2.1) | (exact (ht9 (by assumption)).2.2.2) | rfl) (by decide)) ?_
          show mi_W _ _ _ _ _ (n, sl, hc (cw 3 σ0.n (Int32.ofNat σ2.n) y3) f0) _
          have hB := hB.w (k := 3) (v := Int32.ofNat σ2.n)
          have hs := hs.w (k := 3) (m := σ0.n) (v := Int32.ofNat σ2.n)
          have hg := hg.w (k := 3) (m := σ0.n) (v := Int32.ofNat σ2.n) (Nat.le_refl _)
          have hr := hr.w (k := 3) (m := σ0.n) (v := Int32.ofNat σ2.n) (Nat.lt_succ_self _)
          have e7 := (cw_ne (k := 3) (m := σ0.n) (v := Int32.ofNat σ2.n) (a := y3) (k' := 7) (m' := σ2.n) (fun z => by omega)).trans e7
          generalize cw 3 σ0.n (Int32.ofNat σ2.n) y3 = y3 at *
          refine b_50_243 _ _ _ _ _ _ (by first | (exact hc_o (by first | assumption | (exact ⟨by decide, rfl⟩))) | assumption | (exact (hc_far (by omega)).trans (by assumption))) (by omega) (by first | rfl | assumption) (by first | (exact hc_o (by first | assumption | (exact ⟨by decide, rfl⟩))) | assumption | (exact (hc_far (by omega)).trans (by assumption))) (by omega) (by first | rfl | assumption) (by first | (exact hc_o (by first | assumption | (exact ⟨by decide, rfl⟩))) | assumption | (exact (hc_far (by omega)).trans (by assumption))) (by omega) (by first | rfl | assumption) (by first | (exact hc_o (by first | assumption | (exact ⟨by decide, rfl⟩))) | assumption | (exact (hc_far (by omega)).trans (by assumption))) (by omega) (by first | rfl | assumption) (by first | (exact hc_ai (by omega) (by first | assumption | (exact (ht9 (by assumption)).2.1) | (exact (ht9 (by assumption)).2.2.1) | (exact (ht9 (by assumption)).2.2.2) | rfl) (by decide)) | assumption | (exact (hc_far (by omega)).trans (by assumption))) (by omega) (by first | assumption | (exact ix_of (by omega) (by omega)) | (exact ⟨by decide, rfl, by decide⟩)) ?_
          refine hw_Q (hw_AI (by omega) (by first | assumption | (exact (ht9 (by assumption)).2.1) | (exact (ht9 (by assumption)).2.2.1) | (exact (ht9 (by assumption)).2.2.2) | rfl) (by decide)) ?_
          have h11 := hs.2.1.1
          show Q (.inl (some (.int (Int32.ofNat σ0.n)))) (n, sl, hc (cw 7 σ0.n (y3.I 2 3 11) y3) f0)
          rw [h11]
          have hB := hB.w (k := 7) (v := Int32.ofNat σ3.n)
          have hr := hr.w (k := 7) (m := σ0.n) (v := Int32.ofNat σ3.n) (Nat.lt_succ_self _)
          have e7 := (cw_ne (k := 7) (m := σ0.n) (v := Int32.ofNat σ3.n) (a := y3) (k' := 7) (m' := σ2.n) (fun z => by omega)).trans e7
          refine ok _ _ hsp (hs.w.set) ((hg.w (Nat.le_refl _)).set (Nat.le_refl _)) (hr.one ⟨fun k hk9 h7 => ?_, ?_, ?_⟩ ?_ (by omega)) (hB.1 7 (by omega)) (by show σ0.n < σ3.n; omega)
          · rcases lt9 hk9 with rfl | rfl | rfl | rfl | rfl | rfl | rfl | rfl | rfl <;> first | exact absurd rfl h7 | exact hB.1 _ hk9
          · refine hB.2.trans (hv.trans ?_)
            rw [hk]
            rfl
          · exact (hB.1 7 (by omega)).trans (e7.symm.trans (if_neg (show ¬ σ2.n = 0 by omega)).symm)
          · exact Or.inr ⟨show σ0.n < σ2.n by omega, show σ2.n < σ3.n by omega⟩
        · exact cEr.kc (by decide +kernel) (by omega) ((er w (by rw [hsp, hw]; rfl)).go hg.1)
      · exact cEr.kc (by decide +kernel) (by omega) ((er w (by rw [hsp, hw]; rfl)).go hg.1)
  · exact cEr.kc (by decide +kernel) (by omega) (er _ (ms_E_8 hk40 hop h8))
theorem ci_o30 {l2 : Int32} (hG : cG n sl f0) (hl2 : l2 + 1 = Int32.ofNat (101 - j)) (hj : j + 10 ≤ e + 9) (IH : cIE n sl f0 g L j) (h : cst a0 g L σ0) (hk : σ0.t.k = 33) (ok : cokE n sl f0 g L Q a0 σ0 (ms_E g L (j + 1) true σ0)) (er : cerE n sl f0 Q a0 (ms_E g L (j + 1) true σ0)) : mi_W (e + 9) 50 101 [some (.ref 15), some (.int l2), some (.int 33), some (.int 1), none] [] (n, sl, hc a0 f0) Q := by
  have hn := hG.1
  have hk40 : ¬ σ0.t.k = ms_kc 40 := by rw [hk]; decide
  have hop : ms_op true σ0.t.k = some 30 := by rw [hk]; decide +kernel
  unfold cokE at ok
  unfold cerE at er
  refine b_50_101 _ _ _ (by first | (exact hc_o (by first | assumption | (exact ⟨by decide, rfl⟩))) | assumption | (exact (hc_far (by omega)).trans (by assumption))) (by omega) ?_
  refine cr_node (d := e + 1) hG h (fun h8 y1 v hs hg hv hB => ?_) (fun h8 => ?_)
  · have hsp : ms_E g L (j + 1) true σ0 = ms_eb (ms_E g L j false (σ0.add.nx g L)) (fun _ σ1 => ms_eb (ms_E g L j false σ1) (fun _ σ2 => .ok ((), σ2.set σ0.n (30, 0, 0, 0, 0, (σ0.add.nx g L).n, σ1.n, 0, 0, 0)))) := ms_E_o hk40 hop (by omega)
    rw [hk] at hB
    generalize hσ1 : σ0.add.nx g L = σ1 at *
    have hn1 : σ1.n = σ0.n + 1 := by rw [← hσ1]; rfl
    have hr : crg (σ0.n + 1) σ1.n y1 σ1.tb := by rw [hn1]; exact crg.nil
    have hx := ix_of (w := σ0.n) (m := 800) (by omega) (by omega)
    have hle1 := hs.2.1.2
    refine b_50_105 _ _ _ ?_ ?_
    · intro z105
      first | (exact absurd z105 (by decide)) | (exact absurd (by decide) z105) | (exact absurd rfl z105) | (exact absurd z105 (of_nn (by omega))) | (exact absurd (of_np (by omega)) z105) | omega
    · intro z105
      refine b_50_111 _ _ _ (by first | (exact hc_o (by first | assumption | (exact ⟨by decide, rfl⟩))) | assumption | (exact (hc_far (by omega)).trans (by assumption))) (by omega) (by first | rfl | assumption) (by first | (exact hc_o (by first | assumption | (exact ⟨by decide, rfl⟩))) | assumption | (exact (hc_far (by omega)).trans (by assumption))) (by omega) (by first | rfl | assumption) (by first | (exact hc_o (by first | assumption | (exact ⟨by decide, rfl⟩))) | assumption | (exact (hc_far (by omega)).trans (by assumption))) (by omega) ?_
      rw [hl2]
      refine IH.1 (e + 8) _ _ _ (by omega) hs (fun y2 σ2 hok hs gg hrE e7 hlt => ?_) (fun w hw => ?_)
      · rw [hok, ms_eb_ok] at hsp
        have hB := hB.go gg (by omega)
        have hr := (hr.go gg (Nat.le_refl _)).join hrE (by omega)
        have hg := hg.trans gg
        have hle2 := hs.2.1.2
        have hge2 := gg.2.2.1.1
        refine b_50_127 _ _ _ _ _ _ (by first | (exact hc_ai (by omega) (by first | assumption | (exact (ht9 (by assumption)).2.1) | (exact (ht9 (by assumption)).2.2.1) | (exact (ht9 (by assumption)).2.2.2) | rfl) (by decide)) | assumption | (exact (hc_far (by omega)).trans (by assumption))) (by omega) (by first | assumption | (exact ix_of (by omega) (by omega)) | (exact ⟨by decide, rfl, by decide⟩)) (by first | (exact (congrFun (hw_AI (by omega) (by first | assumption | (exact (ht9 (by assumption)).2.1) | (exact (ht9 (by assumption)).2.2.1) | (exact (ht9 (by assumption)).2.2.2) | rfl) (by decide)) _).trans (hc_o (by first | assumption | (exact ⟨by decide, rfl⟩)))) | assumption | (exact (hc_far (by omega)).trans (by assumption))) (by omega) (by first | rfl | assumption) (by first | (exact (congrFun (hw_AI (by omega) (by first | assumption | (exact (ht9 (by assumption)).2.1) | (exact (ht9 (by assumption)).2.2.1) | (exact (ht9 (by assumption)).2.2.2) | rfl) (by decide)) _).trans (hc_o (by first | assumption | (exact ⟨by decide, rfl⟩)))) | assumption | (exact (hc_far (by omega)).trans (by assumption))) (by omega) (by first | rfl | assumption) (by first | (exact (congrFun (hw_AI (by omega) (by first | assumption | (exact (ht9 (by assumption)).2.1) | (exact (ht9 (by assumption)).2.2.1) | (exact (ht9 (by assumption)).2.2.2) | rfl) (by decide)) _).trans (hc_o (by first | assumption | (exact ⟨by decide, rfl⟩)))) | assumption | (exact (hc_far (by omega)).trans (by assumption))) (by omega) ?_
        refine hw_W (hw_AI (by omega) (by first | assumption | (exact (ht9 (by assumption)).2.1) | (exact (ht9 (by assumption)).2.2.1) | (exact (ht9 (by assumption)).2.2.2) | rfl) (by decide)) ?_
        show mi_W _ _ _ _ _ (n, sl, hc (cw 1 σ0.n (Int32.ofNat σ1.n) y2) f0) _
        have hB := hB.w (k := 1) (v := Int32.ofNat σ1.n)
        have hs := hs.w (k := 1) (m := σ0.n) (v := Int32.ofNat σ1.n)
        have hg := hg.w (k := 1) (m := σ0.n) (v := Int32.ofNat σ1.n) (Nat.le_refl _)
        have hr := hr.w (k := 1) (m := σ0.n) (v := Int32.ofNat σ1.n) (Nat.lt_succ_self _)
        have e7 := (cw_ne (k := 1) (m := σ0.n) (v := Int32.ofNat σ1.n) (a := y2) (k' := 7) (m' := σ1.n) (fun z => by omega)).trans e7
        generalize cw 1 σ0.n (Int32.ofNat σ1.n) y2 = y2 at *
        rw [hl2]
        refine IH.1 (e + 8) _ _ _ (by omega) hs (fun y3 σ3 hok hs gg hrE e7 hlt => ?_) (fun w hw => ?_)
        · rw [hok, ms_eb_ok] at hsp
          have hB := hB.go gg (by omega)
          have hr := (hr.go gg (Nat.le_refl _)).join hrE (by omega)
          have hg := hg.trans gg
          have hle3 := hs.2.1.2
          have hge3 := gg.2.2.1.1
          refine b_50_144 _ _ _ _ _ _ (by first | (exact hc_ai (by omega) (by first | assumption | (exact (ht9 (by assumption)).2.1) | (exact (ht9 (by assumption)).2.2.1) | (exact (ht9 (by assumption)).2.2.2) | rfl) (by decide)) | assumption | (exact (hc_far (by omega)).trans (by assumption))) (by omega) (by first | assumption | (exact ix_of (by omega) (by omega)) | (exact ⟨by decide, rfl, by decide⟩)) ?_
          refine hw_W (hw_AI (by omega) (by first | assumption | (exact (ht9 (by assumption)).2.1) | (exact (ht9 (by assumption)).2.2.1) | (exact (ht9 (by assumption)).2.2.2) | rfl) (by decide)) ?_
          show mi_W _ _ _ _ _ (n, sl, hc (cw 3 σ0.n (Int32.ofNat σ2.n) y3) f0) _
          have hB := hB.w (k := 3) (v := Int32.ofNat σ2.n)
          have hs := hs.w (k := 3) (m := σ0.n) (v := Int32.ofNat σ2.n)
          have hg := hg.w (k := 3) (m := σ0.n) (v := Int32.ofNat σ2.n) (Nat.le_refl _)
          have hr := hr.w (k := 3) (m := σ0.n) (v := Int32.ofNat σ2.n) (Nat.lt_succ_self _)
          have e7 := (cw_ne (k := 3) (m := σ0.n) (v := Int32.ofNat σ2.n) (a := y3) (k' := 7) (m' := σ2.n) (fun z => by omega)).trans e7
          generalize cw 3 σ0.n (Int32.ofNat σ2.n) y3 = y3 at *
          refine b_50_243 _ _ _ _ _ _ (by first | (exact hc_o (by first | assumption | (exact ⟨by decide, rfl⟩))) | assumption | (exact (hc_far (by omega)).trans (by assumption))) (by omega) (by first | rfl | assumption) (by first | (exact hc_o (by first | assumption | (exact ⟨by decide, rfl⟩))) | assumption | (exact (hc_far (by omega)).trans (by assumption))) (by omega) (by first | rfl | assumption) (by first | (exact hc_o (by first | assumption | (exact ⟨by decide, rfl⟩))) | assumption | (exact (hc_far (by omega)).trans (by assumption))) (by omega) (by first | rfl | assumption) (by first | (exact hc_o (by first | assumption | (exact ⟨by decide, rfl⟩))) | assumption | (exact (hc_far (by omega)).trans (by assumption))) (by omega) (by first | rfl | assumption) (by first | (exact hc_ai (by omega) (by first | assumption | (exact (ht9 (by assumption)).2.1) | (exact (ht9 (by assumption)).2.2.1) | (exact (ht9 (by assumption)).2.2.2) | rfl) (by decide)) | assumption | (exact (hc_far (by omega)).trans (by assumption))) (by omega) (by first | assumption | (exact ix_of (by omega) (by omega)) | (exact ⟨by decide, rfl, by decide⟩)) ?_
          refine hw_Q (hw_AI (by omega) (by first | assumption | (exact (ht9 (by assumption)).2.1) | (exact (ht9 (by assumption)).2.2.1) | (exact (ht9 (by assumption)).2.2.2) | rfl) (by decide)) ?_
          have h11 := hs.2.1.1
          show Q (.inl (some (.int (Int32.ofNat σ0.n)))) (n, sl, hc (cw 7 σ0.n (y3.I 2 3 11) y3) f0)
          rw [h11]
          have hB := hB.w (k := 7) (v := Int32.ofNat σ3.n)
          have hr := hr.w (k := 7) (m := σ0.n) (v := Int32.ofNat σ3.n) (Nat.lt_succ_self _)
          have e7 := (cw_ne (k := 7) (m := σ0.n) (v := Int32.ofNat σ3.n) (a := y3) (k' := 7) (m' := σ2.n) (fun z => by omega)).trans e7
          refine ok _ _ hsp (hs.w.set) ((hg.w (Nat.le_refl _)).set (Nat.le_refl _)) (hr.one ⟨fun k hk9 h7 => ?_, ?_, ?_⟩ ?_ (by omega)) (hB.1 7 (by omega)) (by show σ0.n < σ3.n; omega)
          · rcases lt9 hk9 with rfl | rfl | rfl | rfl | rfl | rfl | rfl | rfl | rfl <;> first | exact absurd rfl h7 | exact hB.1 _ hk9
          · refine hB.2.trans (hv.trans ?_)
            rw [hk]
            rfl
          · exact (hB.1 7 (by omega)).trans (e7.symm.trans (if_neg (show ¬ σ2.n = 0 by omega)).symm)
          · exact Or.inr ⟨show σ0.n < σ2.n by omega, show σ2.n < σ3.n by omega⟩
        · exact cEr.kc (by decide +kernel) (by omega) ((er w (by rw [hsp, hw]; rfl)).go hg.1)
      · exact cEr.kc (by decide +kernel) (by omega) ((er w (by rw [hsp, hw]; rfl)).go hg.1)
  · exact cEr.kc (by decide +kernel) (by omega) (er _ (ms_E_8 hk40 hop h8))
theorem ci_o31 {l2 : Int32} (hG : cG n sl f0) (hl2 : l2 + 1 = Int32.ofNat (101 - j)) (hj : j + 10 ≤ e + 9) (IH : cIE n sl f0 g L j) (h : cst a0 g L σ0) (hk : σ0.t.k = 32) (ok : cokE n sl f0 g L Q a0 σ0 (ms_E g L (j + 1) true σ0)) (er : cerE n sl f0 Q a0 (ms_E g L (j + 1) true σ0)) : mi_W (e + 9) 50 101 [some (.ref 15), some (.int l2), some (.int 32), some (.int 1), none] [] (n, sl, hc a0 f0) Q := by
  have hn := hG.1
  have hk40 : ¬ σ0.t.k = ms_kc 40 := by rw [hk]; decide
  have hop : ms_op true σ0.t.k = some 31 := by rw [hk]; decide +kernel
  unfold cokE at ok
  unfold cerE at er
  refine b_50_101 _ _ _ (by first | (exact hc_o (by first | assumption | (exact ⟨by decide, rfl⟩))) | assumption | (exact (hc_far (by omega)).trans (by assumption))) (by omega) ?_
  refine cr_node (d := e + 1) hG h (fun h8 y1 v hs hg hv hB => ?_) (fun h8 => ?_)
  · have hsp : ms_E g L (j + 1) true σ0 = ms_eb (ms_E g L j false (σ0.add.nx g L)) (fun _ σ1 => ms_eb (ms_E g L j false σ1) (fun _ σ2 => .ok ((), σ2.set σ0.n (31, 0, 0, 0, 0, (σ0.add.nx g L).n, σ1.n, 0, 0, 0)))) := ms_E_o hk40 hop (by omega)
    rw [hk] at hB
    generalize hσ1 : σ0.add.nx g L = σ1 at *
    have hn1 : σ1.n = σ0.n + 1 := by rw [← hσ1]; rfl
    have hr : crg (σ0.n + 1) σ1.n y1 σ1.tb := by rw [hn1]; exact crg.nil
    have hx := ix_of (w := σ0.n) (m := 800) (by omega) (by omega)
    have hle1 := hs.2.1.2
    refine b_50_105 _ _ _ ?_ ?_
    · intro z105
      first | (exact absurd z105 (by decide)) | (exact absurd (by decide) z105) | (exact absurd rfl z105) | (exact absurd z105 (of_nn (by omega))) | (exact absurd (of_np (by omega)) z105) | omega
    · intro z105
      refine b_50_111 _ _ _ (by first | (exact hc_o (by first | assumption | (exact ⟨by decide, rfl⟩))) | assumption | (exact (hc_far (by omega)).trans (by assumption))) (by omega) (by first | rfl | assumption) (by first | (exact hc_o (by first | assumption | (exact ⟨by decide, rfl⟩))) | assumption | (exact (hc_far (by omega)).trans (by assumption))) (by omega) (by first | rfl | assumption) (by first | (exact hc_o (by first | assumption | (exact ⟨by decide, rfl⟩))) | assumption | (exact (hc_far (by omega)).trans (by assumption))) (by omega) ?_
      rw [hl2]
      refine IH.1 (e + 8) _ _ _ (by omega) hs (fun y2 σ2 hok hs gg hrE e7 hlt => ?_) (fun w hw => ?_)
      · rw [hok, ms_eb_ok] at hsp
        have hB := hB.go gg (by omega)
        have hr := (hr.go gg (Nat.le_refl _)).join hrE (by omega)
        have hg := hg.trans gg
        have hle2 := hs.2.1.2
        have hge2 := gg.2.2.1.1
        refine b_50_127 _ _ _ _ _ _ (by first | (exact hc_ai (by omega) (by first | assumption | (exact (ht9 (by assumption)).2.1) | (exact (ht9 (by assumption)).2.2.1) | (exact (ht9 (by assumption)).2.2.2) | rfl) (by decide)) | assumption | (exact (hc_far (by omega)).trans (by assumption))) (by omega) (by first | assumption | (exact ix_of (by omega) (by omega)) | (exact ⟨by decide, rfl, by decide⟩)) (by first | (exact (congrFun (hw_AI (by omega) (by first | assumption | (exact (ht9 (by assumption)).2.1) | (exact (ht9 (by assumption)).2.2.1) | (exact (ht9 (by assumption)).2.2.2) | rfl) (by decide)) _).trans (hc_o (by first | assumption | (exact ⟨by decide, rfl⟩)))) | assumption | (exact (hc_far (by omega)).trans (by assumption))) (by omega) (by first | rfl | assumption) (by first | (exact (congrFun (hw_AI (by omega) (by first | assumption | (exact (ht9 (by assumption)).2.1) | (exact (ht9 (by assumption)).2.2.1) | (exact (ht9 (by assumption)).2.2.2) | rfl) (by decide)) _).trans (hc_o (by first | assumption | (exact ⟨by decide, rfl⟩)))) | assumption | (exact (hc_far (by omega)).trans (by assumption))) (by omega) (by first | rfl | assumption) (by first | (exact (congrFun (hw_AI (by omega) (by first | assumption | (exact (ht9 (by assumption)).2.1) | (exact (ht9 (by assumption)).2.2.1) | (exact (ht9 (by assumption)).2.2.2) | rfl) (by decide)) _).trans (hc_o (by first | assumption | (exact ⟨by decide, rfl⟩)))) | assumption | (exact (hc_far (by omega)).trans (by assumption))) (by omega) ?_
        refine hw_W (hw_AI (by omega) (by first | assumption | (exact (ht9 (by assumption)).2.1) | (exact (ht9 (by assumption)).2.2.1) | (exact (ht9 (by assumption)).2.2.2) | rfl) (by decide)) ?_
        show mi_W _ _ _ _ _ (n, sl, hc (cw 1 σ0.n (Int32.ofNat σ1.n) y2) f0) _
        have hB := hB.w (k := 1) (v := Int32.ofNat σ1.n)
        have hs := hs.w (k := 1) (m := σ0.n) (v := Int32.ofNat σ1.n)
        have hg := hg.w (k := 1) (m := σ0.n) (v := Int32.ofNat σ1.n) (Nat.le_refl _)
        have hr := hr.w (k := 1) (m := σ0.n) (v := Int32.ofNat σ1.n) (Nat.lt_succ_self _)
        have e7 := (cw_ne (k := 1) (m := σ0.n) (v := Int32.ofNat σ1.n) (a := y2) (k' := 7) (m' := σ1.n) (fun z => by omega)).trans e7
        generalize cw 1 σ0.n (Int32.ofNat σ1.n) y2 = y2 at *
        rw [hl2]
        refine IH.1 (e + 8) _ _ _ (by omega) hs (fun y3 σ3 hok hs gg hrE e7 hlt => ?_) (fun w hw => ?_)
        · rw [hok, ms_eb_ok] at hsp
          have hB := hB.go gg (by omega)
          have hr := (hr.go gg (Nat.le_refl _)).join hrE (by omega)
          have hg := hg.trans gg
          have hle3 := hs.2.1.2
          have hge3 := gg.2.2.1.1
          refine b_50_144 _ _ _ _ _ _ (by first | (exact hc_ai (by omega) (by first | assumption | (exact (ht9 (by assumption)).2.1) | (exact (ht9 (by assumption)).2.2.1) | (exact (ht9 (by assumption)).2.2.2) | rfl) (by decide)) | assumption | (exact (hc_far (by omega)).trans (by assumption))) (by omega) (by first | assumption | (exact ix_of (by omega) (by omega)) | (exact ⟨by decide, rfl, by decide⟩)) ?_
          refine hw_W (hw_AI (by omega) (by first | assumption | (exact (ht9 (by assumption)).2.1) | (exact (ht9 (by assumption)).2.2.1) | (exact (ht9 (by assumption)).2.2.2) | rfl) (by decide)) ?_
          show mi_W _ _ _ _ _ (n, sl, hc (cw 3 σ0.n (Int32.ofNat σ2.n) y3) f0) _
          have hB := hB.w (k := 3) (v := Int32.ofNat σ2.n)
          have hs := hs.w (k := 3) (m := σ0.n) (v := Int32.ofNat σ2.n)
          have hg := hg.w (k := 3) (m := σ0.n) (v := Int32.ofNat σ2.n) (Nat.le_refl _)
          have hr := hr.w (k := 3) (m := σ0.n) (v := Int32.ofNat σ2.n) (Nat.lt_succ_self _)
          have e7 := (cw_ne (k := 3) (m := σ0.n) (v := Int32.ofNat σ2.n) (a := y3) (k' := 7) (m' := σ2.n) (fun z => by omega)).trans e7
          generalize cw 3 σ0.n (Int32.ofNat σ2.n) y3 = y3 at *
          refine b_50_243 _ _ _ _ _ _ (by first | (exact hc_o (by first | assumption | (exact ⟨by decide, rfl⟩))) | assumption | (exact (hc_far (by omega)).trans (by assumption))) (by omega) (by first | rfl | assumption) (by first | (exact hc_o (by first | assumption | (exact ⟨by decide, rfl⟩))) | assumption | (exact (hc_far (by omega)).trans (by assumption))) (by omega) (by first | rfl | assumption) (by first | (exact hc_o (by first | assumption | (exact ⟨by decide, rfl⟩))) | assumption | (exact (hc_far (by omega)).trans (by assumption))) (by omega) (by first | rfl | assumption) (by first | (exact hc_o (by first | assumption | (exact ⟨by decide, rfl⟩))) | assumption | (exact (hc_far (by omega)).trans (by assumption))) (by omega) (by first | rfl | assumption) (by first | (exact hc_ai (by omega) (by first | assumption | (exact (ht9 (by assumption)).2.1) | (exact (ht9 (by assumption)).2.2.1) | (exact (ht9 (by assumption)).2.2.2) | rfl) (by decide)) | assumption | (exact (hc_far (by omega)).trans (by assumption))) (by omega) (by first | assumption | (exact ix_of (by omega) (by omega)) | (exact ⟨by decide, rfl, by decide⟩)) ?_
          refine hw_Q (hw_AI (by omega) (by first | assumption | (exact (ht9 (by assumption)).2.1) | (exact (ht9 (by assumption)).2.2.1) | (exact (ht9 (by assumption)).2.2.2) | rfl) (by decide)) ?_
          have h11 := hs.2.1.1
          show Q (.inl (some (.int (Int32.ofNat σ0.n)))) (n, sl, hc (cw 7 σ0.n (y3.I 2 3 11) y3) f0)
          rw [h11]
          have hB := hB.w (k := 7) (v := Int32.ofNat σ3.n)
          have hr := hr.w (k := 7) (m := σ0.n) (v := Int32.ofNat σ3.n) (Nat.lt_succ_self _)
          have e7 := (cw_ne (k := 7) (m := σ0.n) (v := Int32.ofNat σ3.n) (a := y3) (k' := 7) (m' := σ2.n) (fun z => by omega)).trans e7
          refine ok _ _ hsp (hs.w.set) ((hg.w (Nat.le_refl _)).set (Nat.le_refl _)) (hr.one ⟨fun k hk9 h7 => ?_, ?_, ?_⟩ ?_ (by omega)) (hB.1 7 (by omega)) (by show σ0.n < σ3.n; omega)
          · rcases lt9 hk9 with rfl | rfl | rfl | rfl | rfl | rfl | rfl | rfl | rfl <;> first | exact absurd rfl h7 | exact hB.1 _ hk9
          · refine hB.2.trans (hv.trans ?_)
            rw [hk]
            rfl
          · exact (hB.1 7 (by omega)).trans (e7.symm.trans (if_neg (show ¬ σ2.n = 0 by omega)).symm)
          · exact Or.inr ⟨show σ0.n < σ2.n by omega, show σ2.n < σ3.n by omega⟩
        · exact cEr.kc (by decide +kernel) (by omega) ((er w (by rw [hsp, hw]; rfl)).go hg.1)
      · exact cEr.kc (by decide +kernel) (by omega) ((er w (by rw [hsp, hw]; rfl)).go hg.1)
  · exact cEr.kc (by decide +kernel) (by omega) (er _ (ms_E_8 hk40 hop h8))
theorem ci_o32 {l2 : Int32} (hG : cG n sl f0) (hl2 : l2 + 1 = Int32.ofNat (101 - j)) (hj : j + 10 ≤ e + 9) (IH : cIE n sl f0 g L j) (h : cst a0 g L σ0) (hk : σ0.t.k = 36) (ok : cokE n sl f0 g L Q a0 σ0 (ms_E g L (j + 1) true σ0)) (er : cerE n sl f0 Q a0 (ms_E g L (j + 1) true σ0)) : mi_W (e + 9) 50 101 [some (.ref 15), some (.int l2), some (.int 36), some (.int 1), none] [] (n, sl, hc a0 f0) Q := by
  have hn := hG.1
  have hk40 : ¬ σ0.t.k = ms_kc 40 := by rw [hk]; decide
  have hop : ms_op true σ0.t.k = some 32 := by rw [hk]; decide +kernel
  unfold cokE at ok
  unfold cerE at er
  refine b_50_101 _ _ _ (by first | (exact hc_o (by first | assumption | (exact ⟨by decide, rfl⟩))) | assumption | (exact (hc_far (by omega)).trans (by assumption))) (by omega) ?_
  refine cr_node (d := e + 1) hG h (fun h8 y1 v hs hg hv hB => ?_) (fun h8 => ?_)
  · have hsp : ms_E g L (j + 1) true σ0 = ms_eb (ms_E g L j false (σ0.add.nx g L)) (fun _ σ1 => ms_eb (ms_E g L j false σ1) (fun _ σ2 => .ok ((), σ2.set σ0.n (32, 0, 0, 0, 0, (σ0.add.nx g L).n, σ1.n, 0, 0, 0)))) := ms_E_o hk40 hop (by omega)
    rw [hk] at hB
    generalize hσ1 : σ0.add.nx g L = σ1 at *
    have hn1 : σ1.n = σ0.n + 1 := by rw [← hσ1]; rfl
    have hr : crg (σ0.n + 1) σ1.n y1 σ1.tb := by rw [hn1]; exact crg.nil
    have hx := ix_of (w := σ0.n) (m := 800) (by omega) (by omega)
    have hle1 := hs.2.1.2
    refine b_50_105 _ _ _ ?_ ?_
    · intro z105
      first | (exact absurd z105 (by decide)) | (exact absurd (by decide) z105) | (exact absurd rfl z105) | (exact absurd z105 (of_nn (by omega))) | (exact absurd (of_np (by omega)) z105) | omega
    · intro z105
      refine b_50_111 _ _ _ (by first | (exact hc_o (by first | assumption | (exact ⟨by decide, rfl⟩))) | assumption | (exact (hc_far (by omega)).trans (by assumption))) (by omega) (by first | rfl | assumption) (by first | (exact hc_o (by first | assumption | (exact ⟨by decide, rfl⟩))) | assumption | (exact (hc_far (by omega)).trans (by assumption))) (by omega) (by first | rfl | assumption) (by first | (exact hc_o (by first | assumption | (exact ⟨by decide, rfl⟩))) | assumption | (exact (hc_far (by omega)).trans (by assumption))) (by omega) ?_
      rw [hl2]
      refine IH.1 (e + 8) _ _ _ (by omega) hs (fun y2 σ2 hok hs gg hrE e7 hlt => ?_) (fun w hw => ?_)
      · rw [hok, ms_eb_ok] at hsp
        have hB := hB.go gg (by omega)
        have hr := (hr.go gg (Nat.le_refl _)).join hrE (by omega)
        have hg := hg.trans gg
        have hle2 := hs.2.1.2
        have hge2 := gg.2.2.1.1
        refine b_50_127 _ _ _ _ _ _ (by first | (exact hc_ai (by omega) (by first | assumption | (exact (ht9 (by assumption)).2.1) | (exact (ht9 (by assumption)).2.2.1) | (exact (ht9 (by assumption)).2.2.2) | rfl) (by decide)) | assumption | (exact (hc_far (by omega)).trans (by assumption))) (by omega) (by first | assumption | (exact ix_of (by omega) (by omega)) | (exact ⟨by decide, rfl, by decide⟩)) (by first | (exact (congrFun (hw_AI (by omega) (by first | assumption | (exact (ht9 (by assumption)).2.1) | (exact (ht9 (by assumption)).2.2.1) | (exact (ht9 (by assumption)).2.2.2) | rfl) (by decide)) _).trans (hc_o (by first | assumption | (exact ⟨by decide, rfl⟩)))) | assumption | (exact (hc_far (by omega)).trans (by assumption))) (by omega) (by first | rfl | assumption) (by first | (exact (congrFun (hw_AI (by omega) (by first | assumption | (exact (ht9 (by assumption)).2.1) | (exact (ht9 (by assumption)).2.2.1) | (exact (ht9 (by assumption)).2.2.2) | rfl) (by decide)) _).trans (hc_o (by first | assumption | (exact ⟨by decide, rfl⟩)))) | assumption | (exact (hc_far (by omega)).trans (by assumption))) (by omega) (by first | rfl | assumption) (by first | (exact (congrFun (hw_AI (by omega) (by first | assumption | (exact (ht9 (by assumption)).2.1) | (exact (ht9 (by assumption)).2.2.1) | (exact (ht9 (by assumption)).2.2.2) | rfl) (by decide)) _).trans (hc_o (by first | assumption | (exact ⟨by decide, rfl⟩)))) | assumption | (exact (hc_far (by omega)).trans (by assumption))) (by omega) ?_
        refine hw_W (hw_AI (by omega) (by first | assumption | (exact (ht9 (by assumption)).2.1) | (exact (ht9 (by assumption)).2.2.1) | (exact (ht9 (by assumption)).2.2.2) | rfl) (by decide)) ?_
        show mi_W _ _ _ _ _ (n, sl, hc (cw 1 σ0.n (Int32.ofNat σ1.n) y2) f0) _
        have hB := hB.w (k := 1) (v := Int32.ofNat σ1.n)
        have hs := hs.w (k := 1) (m := σ0.n) (v := Int32.ofNat σ1.n)
        have hg := hg.w (k := 1) (m := σ0.n) (v := Int32.ofNat σ1.n) (Nat.le_refl _)
        have hr := hr.w (k := 1) (m := σ0.n) (v := Int32.ofNat σ1.n) (Nat.lt_succ_self _)
        have e7 := (cw_ne (k := 1) (m := σ0.n) (v := Int32.ofNat σ1.n) (a := y2) (k' := 7) (m' := σ1.n) (fun z => by omega)).trans e7
        generalize cw 1 σ0.n (Int32.ofNat σ1.n) y2 = y2 at *
        rw [hl2]
        refine IH.1 (e + 8) _ _ _ (by omega) hs (fun y3 σ3 hok hs gg hrE e7 hlt => ?_) (fun w hw => ?_)
        · rw [hok, ms_eb_ok] at hsp
          have hB := hB.go gg (by omega)
          have hr := (hr.go gg (Nat.le_refl _)).join hrE (by omega)
          have hg := hg.trans gg
          have hle3 := hs.2.1.2
          have hge3 := gg.2.2.1.1
          refine b_50_144 _ _ _ _ _ _ (by first | (exact hc_ai (by omega) (by first | assumption | (exact (ht9 (by assumption)).2.1) | (exact (ht9 (by assumption)).2.2.1) | (exact (ht9 (by assumption)).2.2.2) | rfl) (by decide)) | assumption | (exact (hc_far (by omega)).trans (by assumption))) (by omega) (by first | assumption | (exact ix_of (by omega) (by omega)) | (exact ⟨by decide, rfl, by decide⟩)) ?_
          refine hw_W (hw_AI (by omega) (by first | assumption | (exact (ht9 (by assumption)).2.1) | (exact (ht9 (by assumption)).2.2.1) | (exact (ht9 (by assumption)).2.2.2) | rfl) (by decide)) ?_
          show mi_W _ _ _ _ _ (n, sl, hc (cw 3 σ0.n (Int32.ofNat σ2.n) y3) f0) _
          have hB := hB.w (k := 3) (v := Int32.ofNat σ2.n)
          have hs := hs.w (k := 3) (m := σ0.n) (v := Int32.ofNat σ2.n)
          have hg := hg.w (k := 3) (m := σ0.n) (v := Int32.ofNat σ2.n) (Nat.le_refl _)
          have hr := hr.w (k := 3) (m := σ0.n) (v := Int32.ofNat σ2.n) (Nat.lt_succ_self _)
          have e7 := (cw_ne (k := 3) (m := σ0.n) (v := Int32.ofNat σ2.n) (a := y3) (k' := 7) (m' := σ2.n) (fun z => by omega)).trans e7
          generalize cw 3 σ0.n (Int32.ofNat σ2.n) y3 = y3 at *
          refine b_50_243 _ _ _ _ _ _ (by first | (exact hc_o (by first | assumption | (exact ⟨by decide, rfl⟩))) | assumption | (exact (hc_far (by omega)).trans (by assumption))) (by omega) (by first | rfl | assumption) (by first | (exact hc_o (by first | assumption | (exact ⟨by decide, rfl⟩))) | assumption | (exact (hc_far (by omega)).trans (by assumption))) (by omega) (by first | rfl | assumption) (by first | (exact hc_o (by first | assumption | (exact ⟨by decide, rfl⟩))) | assumption | (exact (hc_far (by omega)).trans (by assumption))) (by omega) (by first | rfl | assumption) (by first | (exact hc_o (by first | assumption | (exact ⟨by decide, rfl⟩))) | assumption | (exact (hc_far (by omega)).trans (by assumption))) (by omega) (by first | rfl | assumption) (by first | (exact hc_ai (by omega) (by first | assumption | (exact (ht9 (by assumption)).2.1) | (exact (ht9 (by assumption)).2.2.1) | (exact (ht9 (by assumption)).2.2.2) | rfl) (by decide)) | assumption | (exact (hc_far (by omega)).trans (by assumption))) (by omega) (by first | assumption | (exact ix_of (by omega) (by omega)) | (exact ⟨by decide, rfl, by decide⟩)) ?_
          refine hw_Q (hw_AI (by omega) (by first | assumption | (exact (ht9 (by assumption)).2.1) | (exact (ht9 (by assumption)).2.2.1) | (exact (ht9 (by assumption)).2.2.2) | rfl) (by decide)) ?_
          have h11 := hs.2.1.1
          show Q (.inl (some (.int (Int32.ofNat σ0.n)))) (n, sl, hc (cw 7 σ0.n (y3.I 2 3 11) y3) f0)
          rw [h11]
          have hB := hB.w (k := 7) (v := Int32.ofNat σ3.n)
          have hr := hr.w (k := 7) (m := σ0.n) (v := Int32.ofNat σ3.n) (Nat.lt_succ_self _)
          have e7 := (cw_ne (k := 7) (m := σ0.n) (v := Int32.ofNat σ3.n) (a := y3) (k' := 7) (m' := σ2.n) (fun z => by omega)).trans e7
          refine ok _ _ hsp (hs.w.set) ((hg.w (Nat.le_refl _)).set (Nat.le_refl _)) (hr.one ⟨fun k hk9 h7 => ?_, ?_, ?_⟩ ?_ (by omega)) (hB.1 7 (by omega)) (by show σ0.n < σ3.n; omega)
          · rcases lt9 hk9 with rfl | rfl | rfl | rfl | rfl | rfl | rfl | rfl | rfl <;> first | exact absurd rfl h7 | exact hB.1 _ hk9
          · refine hB.2.trans (hv.trans ?_)
            rw [hk]
            rfl
          · exact (hB.1 7 (by omega)).trans (e7.symm.trans (if_neg (show ¬ σ2.n = 0 by omega)).symm)
          · exact Or.inr ⟨show σ0.n < σ2.n by omega, show σ2.n < σ3.n by omega⟩
        · exact cEr.kc (by decide +kernel) (by omega) ((er w (by rw [hsp, hw]; rfl)).go hg.1)
      · exact cEr.kc (by decide +kernel) (by omega) ((er w (by rw [hsp, hw]; rfl)).go hg.1)
  · exact cEr.kc (by decide +kernel) (by omega) (er _ (ms_E_8 hk40 hop h8))
theorem ci_o24 {l2 : Int32} (hG : cG n sl f0) (hl2 : l2 + 1 = Int32.ofNat (101 - j)) (hj : j + 10 ≤ e + 9) (IH : cIE n sl f0 g L j) (h : cst a0 g L σ0) (hk : σ0.t.k = 20) (ok : cokE n sl f0 g L Q a0 σ0 (ms_E g L (j + 1) true σ0)) (er : cerE n sl f0 Q a0 (ms_E g L (j + 1) true σ0)) : mi_W (e + 9) 50 101 [some (.ref 15), some (.int l2), some (.int 20), some (.int 0), none] [] (n, sl, hc a0 f0) Q := by
  have hn := hG.1
  have hk40 : ¬ σ0.t.k = ms_kc 40 := by rw [hk]; decide
  have hop : ms_op true σ0.t.k = some 24 := by rw [hk]; decide +kernel
  unfold cokE at ok
  unfold cerE at er
  refine b_50_101 _ _ _ (by first | (exact hc_o (by first | assumption | (exact ⟨by decide, rfl⟩))) | assumption | (exact (hc_far (by omega)).trans (by assumption))) (by omega) ?_
  refine cr_node (d := e + 1) hG h (fun h8 y1 v hs hg hv hB => ?_) (fun h8 => ?_)
  · have hsp : ms_E g L (j + 1) true σ0 = ms_eb (ms_E g L j true (σ0.add.nx g L)) (fun _ σ1 => ms_eb (ms_E g L j true σ1) (fun _ σ2 => .ok ((), σ2.set σ0.n (24, 0, 0, 0, 0, (σ0.add.nx g L).n, σ1.n, 0, 0, 0)))) := ms_E_o hk40 hop (by omega)
    rw [hk] at hB
    generalize hσ1 : σ0.add.nx g L = σ1 at *
    have hn1 : σ1.n = σ0.n + 1 := by rw [← hσ1]; rfl
    have hr : crg (σ0.n + 1) σ1.n y1 σ1.tb := by rw [hn1]; exact crg.nil
    have hx := ix_of (w := σ0.n) (m := 800) (by omega) (by omega)
    have hle1 := hs.2.1.2
    refine b_50_105 _ _ _ ?_ ?_
    · intro z105
      refine b_50_148 _ _ _ ?_ ?_
      · intro z148
        refine b_50_160 _ _ _ (by first | (exact hc_o (by first | assumption | (exact ⟨by decide, rfl⟩))) | assumption | (exact (hc_far (by omega)).trans (by assumption))) (by omega) (by first | rfl | assumption) (by first | (exact hc_o (by first | assumption | (exact ⟨by decide, rfl⟩))) | assumption | (exact (hc_far (by omega)).trans (by assumption))) (by omega) (by first | rfl | assumption) (by first | (exact hc_o (by first | assumption | (exact ⟨by decide, rfl⟩))) | assumption | (exact (hc_far (by omega)).trans (by assumption))) (by omega) ?_
        rw [hl2]
        refine IH.2 (e + 8) _ _ _ (by omega) hs (fun y2 σ2 hok hs gg hrE e7 hlt => ?_) (fun w hw => ?_)
        · rw [hok, ms_eb_ok] at hsp
          have hB := hB.go gg (by omega)
          have hr := (hr.go gg (Nat.le_refl _)).join hrE (by omega)
          have hg := hg.trans gg
          have hle2 := hs.2.1.2
          have hge2 := gg.2.2.1.1
          refine b_50_176 _ _ _ _ _ _ (by first | (exact hc_ai (by omega) (by first | assumption | (exact (ht9 (by assumption)).2.1) | (exact (ht9 (by assumption)).2.2.1) | (exact (ht9 (by assumption)).2.2.2) | rfl) (by decide)) | assumption | (exact (hc_far (by omega)).trans (by assumption))) (by omega) (by first | assumption | (exact ix_of (by omega) (by omega)) | (exact ⟨by decide, rfl, by decide⟩)) (by first | (exact (congrFun (hw_AI (by omega) (by first | assumption | (exact (ht9 (by assumption)).2.1) | (exact (ht9 (by assumption)).2.2.1) | (exact (ht9 (by assumption)).2.2.2) | rfl) (by decide)) _).trans (hc_o (by first | assumption | (exact ⟨by decide, rfl⟩)))) | assumption | (exact (hc_far (by omega)).trans (by assumption))) (by omega) (by first | rfl | assumption) (by first | (exact (congrFun (hw_AI (by omega) (by first | assumption | (exact (ht9 (by assumption)).2.1) | (exact (ht9 (by assumption)).2.2.1) | (exact (ht9 (by assumption)).2.2.2) | rfl) (by decide)) _).trans (hc_o (by first | assumption | (exact ⟨by decide, rfl⟩)))) | assumption | (exact (hc_far (by omega)).trans (by assumption))) (by omega) (by first | rfl | assumption) (by first | (exact (congrFun (hw_AI (by omega) (by first | assumption | (exact (ht9 (by assumption)).2.1) | (exact (ht9 (by assumption)).2.2.1) | (exact (ht9 (by assumption)).2.2.2) | rfl) (by decide)) _).trans (hc_o (by first | assumption | (exact ⟨by decide, rfl⟩)))) | assumption | (exact (hc_far (by omega)).trans (by assumption))) (by omega) ?_
          refine hw_W (hw_AI (by omega) (by first | assumption | (exact (ht9 (by assumption)).2.1) | (exact (ht9 (by assumption)).2.2.1) | (exact (ht9 (by assumption)).2.2.2) | rfl) (by decide)) ?_
          show mi_W _ _ _ _ _ (n, sl, hc (cw 1 σ0.n (Int32.ofNat σ1.n) y2) f0) _
          have hB := hB.w (k := 1) (v := Int32.ofNat σ1.n)
          have hs := hs.w (k := 1) (m := σ0.n) (v := Int32.ofNat σ1.n)
          have hg := hg.w (k := 1) (m := σ0.n) (v := Int32.ofNat σ1.n) (Nat.le_refl _)
          have hr := hr.w (k := 1) (m := σ0.n) (v := Int32.ofNat σ1.n) (Nat.lt_succ_self _)
          have e7 := (cw_ne (k := 1) (m := σ0.n) (v := Int32.ofNat σ1.n) (a := y2) (k' := 7) (m' := σ1.n) (fun z => by omega)).trans e7
          generalize cw 1 σ0.n (Int32.ofNat σ1.n) y2 = y2 at *
          rw [hl2]
          refine IH.2 (e + 8) _ _ _ (by omega) hs (fun y3 σ3 hok hs gg hrE e7 hlt => ?_) (fun w hw => ?_)
          · rw [hok, ms_eb_ok] at hsp
            have hB := hB.go gg (by omega)
            have hr := (hr.go gg (Nat.le_refl _)).join hrE (by omega)
            have hg := hg.trans gg
            have hle3 := hs.2.1.2
            have hge3 := gg.2.2.1.1
            refine b_50_193 _ _ _ _ _ _ (by first | (exact hc_ai (by omega) (by first | assumption | (exact (ht9 (by assumption)).2.1) | (exact (ht9 (by assumption)).2.2.1) | (exact (ht9 (by assumption)).2.2.2) | rfl) (by decide)) | assumption | (exact (hc_far (by omega)).trans (by assumption))) (by omega) (by first | assumption | (exact ix_of (by omega) (by omega)) | (exact ⟨by decide, rfl, by decide⟩)) ?_
            refine hw_W (hw_AI (by omega) (by first | assumption | (exact (ht9 (by assumption)).2.1) | (exact (ht9 (by assumption)).2.2.1) | (exact (ht9 (by assumption)).2.2.2) | rfl) (by decide)) ?_
            show mi_W _ _ _ _ _ (n, sl, hc (cw 3 σ0.n (Int32.ofNat σ2.n) y3) f0) _
            have hB := hB.w (k := 3) (v := Int32.ofNat σ2.n)
            have hs := hs.w (k := 3) (m := σ0.n) (v := Int32.ofNat σ2.n)
            have hg := hg.w (k := 3) (m := σ0.n) (v := Int32.ofNat σ2.n) (Nat.le_refl _)
            have hr := hr.w (k := 3) (m := σ0.n) (v := Int32.ofNat σ2.n) (Nat.lt_succ_self _)
            have e7 := (cw_ne (k := 3) (m := σ0.n) (v := Int32.ofNat σ2.n) (a := y3) (k' := 7) (m' := σ2.n) (fun z => by omega)).trans e7
            generalize cw 3 σ0.n (Int32.ofNat σ2.n) y3 = y3 at *
            refine b_50_243 _ _ _ _ _ _ (by first | (exact hc_o (by first | assumption | (exact ⟨by decide, rfl⟩))) | assumption | (exact (hc_far (by omega)).trans (by assumption))) (by omega) (by first | rfl | assumption) (by first | (exact hc_o (by first | assumption | (exact ⟨by decide, rfl⟩))) | assumption | (exact (hc_far (by omega)).trans (by assumption))) (by omega) (by first | rfl | assumption) (by first | (exact hc_o (by first | assumption | (exact ⟨by decide, rfl⟩))) | assumption | (exact (hc_far (by omega)).trans (by assumption))) (by omega) (by first | rfl | assumption) (by first | (exact hc_o (by first | assumption | (exact ⟨by decide, rfl⟩))) | assumption | (exact (hc_far (by omega)).trans (by assumption))) (by omega) (by first | rfl | assumption) (by first | (exact hc_ai (by omega) (by first | assumption | (exact (ht9 (by assumption)).2.1) | (exact (ht9 (by assumption)).2.2.1) | (exact (ht9 (by assumption)).2.2.2) | rfl) (by decide)) | assumption | (exact (hc_far (by omega)).trans (by assumption))) (by omega) (by first | assumption | (exact ix_of (by omega) (by omega)) | (exact ⟨by decide, rfl, by decide⟩)) ?_
            refine hw_Q (hw_AI (by omega) (by first | assumption | (exact (ht9 (by assumption)).2.1) | (exact (ht9 (by assumption)).2.2.1) | (exact (ht9 (by assumption)).2.2.2) | rfl) (by decide)) ?_
            have h11 := hs.2.1.1
            show Q (.inl (some (.int (Int32.ofNat σ0.n)))) (n, sl, hc (cw 7 σ0.n (y3.I 2 3 11) y3) f0)
            rw [h11]
            have hB := hB.w (k := 7) (v := Int32.ofNat σ3.n)
            have hr := hr.w (k := 7) (m := σ0.n) (v := Int32.ofNat σ3.n) (Nat.lt_succ_self _)
            have e7 := (cw_ne (k := 7) (m := σ0.n) (v := Int32.ofNat σ3.n) (a := y3) (k' := 7) (m' := σ2.n) (fun z => by omega)).trans e7
            refine ok _ _ hsp (hs.w.set) ((hg.w (Nat.le_refl _)).set (Nat.le_refl _)) (hr.one ⟨fun k hk9 h7 => ?_, ?_, ?_⟩ ?_ (by omega)) (hB.1 7 (by omega)) (by show σ0.n < σ3.n; omega)
            · rcases lt9 hk9 with rfl | rfl | rfl | rfl | rfl | rfl | rfl | rfl | rfl <;> first | exact absurd rfl h7 | exact hB.1 _ hk9
            · refine hB.2.trans (hv.trans ?_)
              rw [hk]
              rfl
            · exact (hB.1 7 (by omega)).trans (e7.symm.trans (if_neg (show ¬ σ2.n = 0 by omega)).symm)
            · exact Or.inr ⟨show σ0.n < σ2.n by omega, show σ2.n < σ3.n by omega⟩
          · exact cEr.kc (by decide +kernel) (by omega) ((er w (by rw [hsp, hw]; rfl)).go hg.1)
        · exact cEr.kc (by decide +kernel) (by omega) ((er w (by rw [hsp, hw]; rfl)).go hg.1)
      · intro z148
        first | (exact absurd z148 (by decide)) | (exact absurd (by decide) z148) | (exact absurd rfl z148) | (exact absurd z148 (of_nn (by omega))) | (exact absurd (of_np (by omega)) z148) | omega
    · intro z105
      first | (exact absurd z105 (by decide)) | (exact absurd (by decide) z105) | (exact absurd rfl z105) | (exact absurd z105 (of_nn (by omega))) | (exact absurd (of_np (by omega)) z105) | omega
  · exact cEr.kc (by decide +kernel) (by omega) (er _ (ms_E_8 hk40 hop h8))
theorem ci_o25 {l2 : Int32} (hG : cG n sl f0) (hl2 : l2 + 1 = Int32.ofNat (101 - j)) (hj : j + 10 ≤ e + 9) (IH : cIE n sl f0 g L j) (h : cst a0 g L σ0) (hk : σ0.t.k = 21) (ok : cokE n sl f0 g L Q a0 σ0 (ms_E g L (j + 1) true σ0)) (er : cerE n sl f0 Q a0 (ms_E g L (j + 1) true σ0)) : mi_W (e + 9) 50 101 [some (.ref 15), some (.int l2), some (.int 21), some (.int 0), none] [] (n, sl, hc a0 f0) Q := by
  have hn := hG.1
  have hk40 : ¬ σ0.t.k = ms_kc 40 := by rw [hk]; decide
  have hop : ms_op true σ0.t.k = some 25 := by rw [hk]; decide +kernel
  unfold cokE at ok
  unfold cerE at er
  refine b_50_101 _ _ _ (by first | (exact hc_o (by first | assumption | (exact ⟨by decide, rfl⟩))) | assumption | (exact (hc_far (by omega)).trans (by assumption))) (by omega) ?_
  refine cr_node (d := e + 1) hG h (fun h8 y1 v hs hg hv hB => ?_) (fun h8 => ?_)
  · have hsp : ms_E g L (j + 1) true σ0 = ms_eb (ms_E g L j true (σ0.add.nx g L)) (fun _ σ1 => ms_eb (ms_E g L j true σ1) (fun _ σ2 => .ok ((), σ2.set σ0.n (25, 0, 0, 0, 0, (σ0.add.nx g L).n, σ1.n, 0, 0, 0)))) := ms_E_o hk40 hop (by omega)
    rw [hk] at hB
    generalize hσ1 : σ0.add.nx g L = σ1 at *
    have hn1 : σ1.n = σ0.n + 1 := by rw [← hσ1]; rfl
    have hr : crg (σ0.n + 1) σ1.n y1 σ1.tb := by rw [hn1]; exact crg.nil
    have hx := ix_of (w := σ0.n) (m := 800) (by omega) (by omega)
    have hle1 := hs.2.1.2
    refine b_50_105 _ _ _ ?_ ?_
    · intro z105
      refine b_50_148 _ _ _ ?_ ?_
      · intro z148
        first | (exact absurd z148 (by decide)) | (exact absurd (by decide) z148) | (exact absurd rfl z148) | (exact absurd z148 (of_nn (by omega))) | (exact absurd (of_np (by omega)) z148) | omega
      · intro z148
        refine b_50_154 _ _ _ ?_ ?_
        · intro z154
          first | (exact absurd z154 (by decide)) | (exact absurd (by decide) z154) | (exact absurd rfl z154) | (exact absurd z154 (of_nn (by omega))) | (exact absurd (of_np (by omega)) z154) | omega
        · intro z154
          refine b_50_160 _ _ _ (by first | (exact hc_o (by first | assumption | (exact ⟨by decide, rfl⟩))) | assumption | (exact (hc_far (by omega)).trans (by assumption))) (by omega) (by first | rfl | assumption) (by first | (exact hc_o (by first | assumption | (exact ⟨by decide, rfl⟩))) | assumption | (exact (hc_far (by omega)).trans (by assumption))) (by omega) (by first | rfl | assumption) (by first | (exact hc_o (by first | assumption | (exact ⟨by decide, rfl⟩))) | assumption | (exact (hc_far (by omega)).trans (by assumption))) (by omega) ?_
          rw [hl2]
          refine IH.2 (e + 8) _ _ _ (by omega) hs (fun y2 σ2 hok hs gg hrE e7 hlt => ?_) (fun w hw => ?_)
          · rw [hok, ms_eb_ok] at hsp
            have hB := hB.go gg (by omega)
            have hr := (hr.go gg (Nat.le_refl _)).join hrE (by omega)
            have hg := hg.trans gg
            have hle2 := hs.2.1.2
            have hge2 := gg.2.2.1.1
            refine b_50_176 _ _ _ _ _ _ (by first | (exact hc_ai (by omega) (by first | assumption | (exact (ht9 (by assumption)).2.1) | (exact (ht9 (by assumption)).2.2.1) | (exact (ht9 (by assumption)).2.2.2) | rfl) (by decide)) | assumption | (exact (hc_far (by omega)).trans (by assumption))) (by omega) (by first | assumption | (exact ix_of (by omega) (by omega)) | (exact ⟨by decide, rfl, by decide⟩)) (by first | (exact (congrFun (hw_AI (by omega) (by first | assumption | (exact (ht9 (by assumption)).2.1) | (exact (ht9 (by assumption)).2.2.1) | (exact (ht9 (by assumption)).2.2.2) | rfl) (by decide)) _).trans (hc_o (by first | assumption | (exact ⟨by decide, rfl⟩)))) | assumption | (exact (hc_far (by omega)).trans (by assumption))) (by omega) (by first | rfl | assumption) (by first | (exact (congrFun (hw_AI (by omega) (by first | assumption | (exact (ht9 (by assumption)).2.1) | (exact (ht9 (by assumption)).2.2.1) | (exact (ht9 (by assumption)).2.2.2) | rfl) (by decide)) _).trans (hc_o (by first | assumption | (exact ⟨by decide, rfl⟩)))) | assumption | (exact (hc_far (by omega)).trans (by assumption))) (by omega) (by first | rfl | assumption) (by first | (exact (congrFun (hw_AI (by omega) (by first | assumption | (exact (ht9 (by assumption)).2.1) | (exact (ht9 (by assumption)).2.2.1) | (exact (ht9 (by assumption)).2.2.2) | rfl) (by decide)) _).trans (hc_o (by first | assumption | (exact ⟨by decide, rfl⟩)))) | assumption | (exact (hc_far (by omega)).trans (by assumption))) (by omega) ?_
            refine hw_W (hw_AI (by omega) (by first | assumption | (exact (ht9 (by assumption)).2.1) | (exact (ht9 (by assumption)).2.2.1) | (exact (ht9 (by assumption)).2.2.2) | rfl) (by decide)) ?_
            show mi_W _ _ _ _ _ (n, sl, hc (cw 1 σ0.n (Int32.ofNat σ1.n) y2) f0) _
            have hB := hB.w (k := 1) (v := Int32.ofNat σ1.n)
            have hs := hs.w (k := 1) (m := σ0.n) (v := Int32.ofNat σ1.n)
            have hg := hg.w (k := 1) (m := σ0.n) (v := Int32.ofNat σ1.n) (Nat.le_refl _)
            have hr := hr.w (k := 1) (m := σ0.n) (v := Int32.ofNat σ1.n) (Nat.lt_succ_self _)
            have e7 := (cw_ne (k := 1) (m := σ0.n) (v := Int32.ofNat σ1.n) (a := y2) (k' := 7) (m' := σ1.n) (fun z => by omega)).trans e7
            generalize cw 1 σ0.n (Int32.ofNat σ1.n) y2 = y2 at *
            rw [hl2]
            refine IH.2 (e + 8) _ _ _ (by omega) hs (fun y3 σ3 hok hs gg hrE e7 hlt => ?_) (fun w hw => ?_)
            · rw [hok, ms_eb_ok] at hsp
              have hB := hB.go gg (by omega)
              have hr := (hr.go gg (Nat.le_refl _)).join hrE (by omega)
              have hg := hg.trans gg
              have hle3 := hs.2.1.2
              have hge3 := gg.2.2.1.1
              refine b_50_193 _ _ _ _ _ _ (by first | (exact hc_ai (by omega) (by first | assumption | (exact (ht9 (by assumption)).2.1) | (exact (ht9 (by assumption)).2.2.1) | (exact (ht9 (by assumption)).2.2.2) | rfl) (by decide)) | assumption | (exact (hc_far (by omega)).trans (by assumption))) (by omega) (by first | assumption | (exact ix_of (by omega) (by omega)) | (exact ⟨by decide, rfl, by decide⟩)) ?_
              refine hw_W (hw_AI (by omega) (by first | assumption | (exact (ht9 (by assumption)).2.1) | (exact (ht9 (by assumption)).2.2.1) | (exact (ht9 (by assumption)).2.2.2) | rfl) (by decide)) ?_
              show mi_W _ _ _ _ _ (n, sl, hc (cw 3 σ0.n (Int32.ofNat σ2.n) y3) f0) _
              have hB := hB.w (k := 3) (v := Int32.ofNat σ2.n)
              have hs := hs.w (k := 3) (m := σ0.n) (v := Int32.ofNat σ2.n)
              have hg := hg.w (k := 3) (m := σ0.n) (v := Int32.ofNat σ2.n) (Nat.le_refl _)
              have hr := hr.w (k := 3) (m := σ0.n) (v := Int32.ofNat σ2.n) (Nat.lt_succ_self _)
              have e7 := (cw_ne (k := 3) (m := σ0.n) (v := Int32.ofNat σ2.n) (a := y3) (k' := 7) (m' := σ2.n) (fun z => by omega)).trans e7
              generalize cw 3 σ0.n (Int32.ofNat σ2.n) y3 = y3 at *
              refine b_50_243 _ _ _ _ _ _ (by first | (exact hc_o (by first | assumption | (exact ⟨by decide, rfl⟩))) | assumption | (exact (hc_far (by omega)).trans (by assumption))) (by omega) (by first | rfl | assumption) (by first | (exact hc_o (by first | assumption | (exact ⟨by decide, rfl⟩))) | assumption | (exact (hc_far (by omega)).trans (by assumption))) (by omega) (by first | rfl | assumption) (by first | (exact hc_o (by first | assumption | (exact ⟨by decide, rfl⟩))) | assumption | (exact (hc_far (by omega)).trans (by assumption))) (by omega) (by first | rfl | assumption) (by first | (exact hc_o (by first | assumption | (exact ⟨by decide, rfl⟩))) | assumption | (exact (hc_far (by omega)).trans (by assumption))) (by omega) (by first | rfl | assumption) (by first | (exact hc_ai (by omega) (by first | assumption | (exact (ht9 (by assumption)).2.1) | (exact (ht9 (by assumption)).2.2.1) | (exact (ht9 (by assumption)).2.2.2) | rfl) (by decide)) | assumption | (exact (hc_far (by omega)).trans (by assumption))) (by omega) (by first | assumption | (exact ix_of (by omega) (by omega)) | (exact ⟨by decide, rfl, by decide⟩)) ?_
              refine hw_Q (hw_AI (by omega) (by first | assumption | (exact (ht9 (by assumption)).2.1) | (exact (ht9 (by assumption)).2.2.1) | (exact (ht9 (by assumption)).2.2.2) | rfl) (by decide)) ?_
              have h11 := hs.2.1.1
              show Q (.inl (some (.int (Int32.ofNat σ0.n)))) (n, sl, hc (cw 7 σ0.n (y3.I 2 3 11) y3) f0)
              rw [h11]
              have hB := hB.w (k := 7) (v := Int32.ofNat σ3.n)
              have hr := hr.w (k := 7) (m := σ0.n) (v := Int32.ofNat σ3.n) (Nat.lt_succ_self _)
              have e7 := (cw_ne (k := 7) (m := σ0.n) (v := Int32.ofNat σ3.n) (a := y3) (k' := 7) (m' := σ2.n) (fun z => by omega)).trans e7
              refine ok _ _ hsp (hs.w.set) ((hg.w (Nat.le_refl _)).set (Nat.le_refl _)) (hr.one ⟨fun k hk9 h7 => ?_, ?_, ?_⟩ ?_ (by omega)) (hB.1 7 (by omega)) (by show σ0.n < σ3.n; omega)
              · rcases lt9 hk9 with rfl | rfl | rfl | rfl | rfl | rfl | rfl | rfl | rfl <;> first | exact absurd rfl h7 | exact hB.1 _ hk9
              · refine hB.2.trans (hv.trans ?_)
                rw [hk]
                rfl
              · exact (hB.1 7 (by omega)).trans (e7.symm.trans (if_neg (show ¬ σ2.n = 0 by omega)).symm)
              · exact Or.inr ⟨show σ0.n < σ2.n by omega, show σ2.n < σ3.n by omega⟩
            · exact cEr.kc (by decide +kernel) (by omega) ((er w (by rw [hsp, hw]; rfl)).go hg.1)
          · exact cEr.kc (by decide +kernel) (by omega) ((er w (by rw [hsp, hw]; rfl)).go hg.1)
    · intro z105
      first | (exact absurd z105 (by decide)) | (exact absurd (by decide) z105) | (exact absurd rfl z105) | (exact absurd z105 (of_nn (by omega))) | (exact absurd (of_np (by omega)) z105) | omega
  · exact cEr.kc (by decide +kernel) (by omega) (er _ (ms_E_8 hk40 hop h8))
theorem ci_o26 {l2 : Int32} (hG : cG n sl f0) (hl2 : l2 + 1 = Int32.ofNat (101 - j)) (hj : j + 10 ≤ e + 9) (IH : cIE n sl f0 g L j) (h : cst a0 g L σ0) (hk : σ0.t.k = 22) (ok : cokE n sl f0 g L Q a0 σ0 (ms_E g L (j + 1) true σ0)) (er : cerE n sl f0 Q a0 (ms_E g L (j + 1) true σ0)) : mi_W (e + 9) 50 101 [some (.ref 15), some (.int l2), some (.int 22), some (.int 0), none] [] (n, sl, hc a0 f0) Q := by
  have hn := hG.1
  have hk40 : ¬ σ0.t.k = ms_kc 40 := by rw [hk]; decide
  have hop : ms_op true σ0.t.k = some 26 := by rw [hk]; decide +kernel
  unfold cokE at ok
  unfold cerE at er
  refine b_50_101 _ _ _ (by first | (exact hc_o (by first | assumption | (exact ⟨by decide, rfl⟩))) | assumption | (exact (hc_far (by omega)).trans (by assumption))) (by omega) ?_
  refine cr_node (d := e + 1) hG h (fun h8 y1 v hs hg hv hB => ?_) (fun h8 => ?_)
  · have hsp : ms_E g L (j + 1) true σ0 = ms_eb (ms_E g L j true (σ0.add.nx g L)) (fun _ σ1 => .ok ((), σ1.set σ0.n (26, 0, 0, 0, 0, (σ0.add.nx g L).n, 0, 0, 0, 0))) := ms_E_o hk40 hop (by omega)
    rw [hk] at hB
    generalize hσ1 : σ0.add.nx g L = σ1 at *
    have hn1 : σ1.n = σ0.n + 1 := by rw [← hσ1]; rfl
    have hr : crg (σ0.n + 1) σ1.n y1 σ1.tb := by rw [hn1]; exact crg.nil
    have hx := ix_of (w := σ0.n) (m := 800) (by omega) (by omega)
    have hle1 := hs.2.1.2
    refine b_50_105 _ _ _ ?_ ?_
    · intro z105
      refine b_50_148 _ _ _ ?_ ?_
      · intro z148
        first | (exact absurd z148 (by decide)) | (exact absurd (by decide) z148) | (exact absurd rfl z148) | (exact absurd z148 (of_nn (by omega))) | (exact absurd (of_np (by omega)) z148) | omega
      · intro z148
        refine b_50_154 _ _ _ ?_ ?_
        · intro z154
          refine b_50_197 _ _ _ ?_ ?_
          · intro z197
            first | (exact absurd z197 (by decide)) | (exact absurd (by decide) z197) | (exact absurd rfl z197) | (exact absurd z197 (of_nn (by omega))) | (exact absurd (of_np (by omega)) z197) | omega
          · intro z197
            refine b_50_203 _ _ _ (by first | (exact hc_o (by first | assumption | (exact ⟨by decide, rfl⟩))) | assumption | (exact (hc_far (by omega)).trans (by assumption))) (by omega) (by first | rfl | assumption) (by first | (exact hc_o (by first | assumption | (exact ⟨by decide, rfl⟩))) | assumption | (exact (hc_far (by omega)).trans (by assumption))) (by omega) (by first | rfl | assumption) (by first | (exact hc_o (by first | assumption | (exact ⟨by decide, rfl⟩))) | assumption | (exact (hc_far (by omega)).trans (by assumption))) (by omega) ?_
            rw [hl2]
            refine IH.2 (e + 8) _ _ _ (by omega) hs (fun y2 σ2 hok hs gg hrE e7 hlt => ?_) (fun w hw => ?_)
            · rw [hok, ms_eb_ok] at hsp
              have hB := hB.go gg (by omega)
              have hr := (hr.go gg (Nat.le_refl _)).join hrE (by omega)
              have hg := hg.trans gg
              have hle2 := hs.2.1.2
              have hge2 := gg.2.2.1.1
              refine b_50_219 _ _ _ _ _ _ (by first | (exact hc_ai (by omega) (by first | assumption | (exact (ht9 (by assumption)).2.1) | (exact (ht9 (by assumption)).2.2.1) | (exact (ht9 (by assumption)).2.2.2) | rfl) (by decide)) | assumption | (exact (hc_far (by omega)).trans (by assumption))) (by omega) (by first | assumption | (exact ix_of (by omega) (by omega)) | (exact ⟨by decide, rfl, by decide⟩)) ?_
              refine hw_W (hw_AI (by omega) (by first | assumption | (exact (ht9 (by assumption)).2.1) | (exact (ht9 (by assumption)).2.2.1) | (exact (ht9 (by assumption)).2.2.2) | rfl) (by decide)) ?_
              show mi_W _ _ _ _ _ (n, sl, hc (cw 1 σ0.n (Int32.ofNat σ1.n) y2) f0) _
              have hB := hB.w (k := 1) (v := Int32.ofNat σ1.n)
              have hs := hs.w (k := 1) (m := σ0.n) (v := Int32.ofNat σ1.n)
              have hg := hg.w (k := 1) (m := σ0.n) (v := Int32.ofNat σ1.n) (Nat.le_refl _)
              have hr := hr.w (k := 1) (m := σ0.n) (v := Int32.ofNat σ1.n) (Nat.lt_succ_self _)
              have e7 := (cw_ne (k := 1) (m := σ0.n) (v := Int32.ofNat σ1.n) (a := y2) (k' := 7) (m' := σ1.n) (fun z => by omega)).trans e7
              generalize cw 1 σ0.n (Int32.ofNat σ1.n) y2 = y2 at *
              refine b_50_243 _ _ _ _ _ _ (by first | (exact hc_o (by first | assumption | (exact ⟨by decide, rfl⟩))) | assumption | (exact (hc_far (by omega)).trans (by assumption))) (by omega) (by first | rfl | assumption) (by first | (exact hc_o (by first | assumption | (exact ⟨by decide, rfl⟩))) | assumption | (exact (hc_far (by omega)).trans (by assumption))) (by omega) (by first | rfl | assumption) (by first | (exact hc_o (by first | assumption | (exact ⟨by decide, rfl⟩))) | assumption | (exact (hc_far (by omega)).trans (by assumption))) (by omega) (by first | rfl | assumption) (by first | (exact hc_o (by first | assumption | (exact ⟨by decide, rfl⟩))) | assumption | (exact (hc_far (by omega)).trans (by assumption))) (by omega) (by first | rfl | assumption) (by first | (exact hc_ai (by omega) (by first | assumption | (exact (ht9 (by assumption)).2.1) | (exact (ht9 (by assumption)).2.2.1) | (exact (ht9 (by assumption)).2.2.2) | rfl) (by decide)) | assumption | (exact (hc_far (by omega)).trans (by assumption))) (by omega) (by first | assumption | (exact ix_of (by omega) (by omega)) | (exact ⟨by decide, rfl, by decide⟩)) ?_
              refine hw_Q (hw_AI (by omega) (by first | assumption | (exact (ht9 (by assumption)).2.1) | (exact (ht9 (by assumption)).2.2.1) | (exact (ht9 (by assumption)).2.2.2) | rfl) (by decide)) ?_
              have h11 := hs.2.1.1
              show Q (.inl (some (.int (Int32.ofNat σ0.n)))) (n, sl, hc (cw 7 σ0.n (y2.I 2 3 11) y2) f0)
              rw [h11]
              have hB := hB.w (k := 7) (v := Int32.ofNat σ2.n)
              have hr := hr.w (k := 7) (m := σ0.n) (v := Int32.ofNat σ2.n) (Nat.lt_succ_self _)
              have e7 := (cw_ne (k := 7) (m := σ0.n) (v := Int32.ofNat σ2.n) (a := y2) (k' := 7) (m' := σ1.n) (fun z => by omega)).trans e7
              refine ok _ _ hsp (hs.w.set) ((hg.w (Nat.le_refl _)).set (Nat.le_refl _)) (hr.one ⟨fun k hk9 h7 => ?_, ?_, ?_⟩ ?_ (by omega)) (hB.1 7 (by omega)) (by show σ0.n < σ2.n; omega)
              · rcases lt9 hk9 with rfl | rfl | rfl | rfl | rfl | rfl | rfl | rfl | rfl <;> first | exact absurd rfl h7 | exact hB.1 _ hk9
              · refine hB.2.trans (hv.trans ?_)
                rw [hk]
                rfl
              · exact (hB.1 7 (by omega)).trans (e7.symm.trans (if_neg (show ¬ σ1.n = 0 by omega)).symm)
              · exact Or.inr ⟨show σ0.n < σ1.n by omega, show σ1.n < σ2.n by omega⟩
            · exact cEr.kc (by decide +kernel) (by omega) ((er w (by rw [hsp, hw]; rfl)).go hg.1)
        · intro z154
          first | (exact absurd z154 (by decide)) | (exact absurd (by decide) z154) | (exact absurd rfl z154) | (exact absurd z154 (of_nn (by omega))) | (exact absurd (of_np (by omega)) z154) | omega
    · intro z105
      first | (exact absurd z105 (by decide)) | (exact absurd (by decide) z105) | (exact absurd rfl z105) | (exact absurd z105 (of_nn (by omega))) | (exact absurd (of_np (by omega)) z105) | omega
  · exact cEr.kc (by decide +kernel) (by omega) (er _ (ms_E_8 hk40 hop h8))
theorem ci_o27 {l2 : Int32} (hG : cG n sl f0) (hl2 : l2 + 1 = Int32.ofNat (101 - j)) (hj : j + 10 ≤ e + 9) (IH : cIE n sl f0 g L j) (h : cst a0 g L σ0) (hk : σ0.t.k = 23) (ok : cokE n sl f0 g L Q a0 σ0 (ms_E g L (j + 1) true σ0)) (er : cerE n sl f0 Q a0 (ms_E g L (j + 1) true σ0)) : mi_W (e + 9) 50 101 [some (.ref 15), some (.int l2), some (.int 23), some (.int 0), none] [] (n, sl, hc a0 f0) Q := by
  have hn := hG.1
  have hk40 : ¬ σ0.t.k = ms_kc 40 := by rw [hk]; decide
  have hop : ms_op true σ0.t.k = some 27 := by rw [hk]; decide +kernel
  unfold cokE at ok
  unfold cerE at er
  refine b_50_101 _ _ _ (by first | (exact hc_o (by first | assumption | (exact ⟨by decide, rfl⟩))) | assumption | (exact (hc_far (by omega)).trans (by assumption))) (by omega) ?_
  refine cr_node (d := e + 1) hG h (fun h8 y1 v hs hg hv hB => ?_) (fun h8 => ?_)
  · have hsp : ms_E g L (j + 1) true σ0 = ms_eb (ms_hc g L (σ0.add.nx g L)) (fun h σ => .ok ((), σ.set σ0.n (27, h, 0, 0, 0, 0, 0, 0, 0, 0))) := ms_E_o hk40 hop (by omega)
    rw [hk] at hB
    generalize hσ1 : σ0.add.nx g L = σ1 at *
    have hn1 : σ1.n = σ0.n + 1 := by rw [← hσ1]; rfl
    have hr : crg (σ0.n + 1) σ1.n y1 σ1.tb := by rw [hn1]; exact crg.nil
    have hx := ix_of (w := σ0.n) (m := 800) (by omega) (by omega)
    have hle1 := hs.2.1.2
    refine b_50_105 _ _ _ ?_ ?_
    · intro z105
      refine b_50_148 _ _ _ ?_ ?_
      · intro z148
        first | (exact absurd z148 (by decide)) | (exact absurd (by decide) z148) | (exact absurd rfl z148) | (exact absurd z148 (of_nn (by omega))) | (exact absurd (of_np (by omega)) z148) | omega
      · intro z148
        refine b_50_154 _ _ _ ?_ ?_
        · intro z154
          refine b_50_197 _ _ _ ?_ ?_
          · intro z197
            refine b_50_223 _ _ _ ?_ ?_
            · intro z223
              first | (exact absurd z223 (by decide)) | (exact absurd (by decide) z223) | (exact absurd rfl z223) | (exact absurd z223 (of_nn (by omega))) | (exact absurd (of_np (by omega)) z223) | omega
            · intro z223
              refine b_50_229 _ _ _ (by first | (exact hc_o (by first | assumption | (exact ⟨by decide, rfl⟩))) | assumption | (exact (hc_far (by omega)).trans (by assumption))) (by omega) (by first | rfl | assumption) (by first | (exact hc_o (by first | assumption | (exact ⟨by decide, rfl⟩))) | assumption | (exact (hc_far (by omega)).trans (by assumption))) (by omega) (by first | rfl | assumption) (by first | (exact hc_o (by first | assumption | (exact ⟨by decide, rfl⟩))) | assumption | (exact (hc_far (by omega)).trans (by assumption))) (by omega) ?_
              refine cr_hc (d := e) hG hs (fun i2 σ2 hok hi hnn y2 hs gg => ?_) (fun w hw => ?_)
              · rw [hok, ms_eb_ok] at hsp
                have hB := hB.go gg (by omega)
                have hr := hr.go gg (Nat.le_refl _)
                rw [← hnn] at hr
                have hg := hg.trans gg
                have hle2 := hs.2.1.2
                have hge2 := gg.2.2.1.1
                refine b_50_242 _ _ _ _ _ _ (by first | (exact hc_ai (by omega) (by first | assumption | (exact (ht9 (by assumption)).2.1) | (exact (ht9 (by assumption)).2.2.1) | (exact (ht9 (by assumption)).2.2.2) | rfl) (by decide)) | assumption | (exact (hc_far (by omega)).trans (by assumption))) (by omega) (by first | assumption | (exact ix_of (by omega) (by omega)) | (exact ⟨by decide, rfl, by decide⟩)) ?_
                refine hw_W (hw_AI (by omega) (by first | assumption | (exact (ht9 (by assumption)).2.1) | (exact (ht9 (by assumption)).2.2.1) | (exact (ht9 (by assumption)).2.2.2) | rfl) (by decide)) ?_
                show mi_W _ _ _ _ _ (n, sl, hc (cw 4 σ0.n (Int32.ofNat i2) y2) f0) _
                have hB := hB.w (k := 4) (v := Int32.ofNat i2)
                have hs := hs.w (k := 4) (m := σ0.n) (v := Int32.ofNat i2)
                have hg := hg.w (k := 4) (m := σ0.n) (v := Int32.ofNat i2) (Nat.le_refl _)
                have hr := hr.w (k := 4) (m := σ0.n) (v := Int32.ofNat i2) (Nat.lt_succ_self _)
                generalize cw 4 σ0.n (Int32.ofNat i2) y2 = y2 at *
                refine b_50_243 _ _ _ _ _ _ (by first | (exact hc_o (by first | assumption | (exact ⟨by decide, rfl⟩))) | assumption | (exact (hc_far (by omega)).trans (by assumption))) (by omega) (by first | rfl | assumption) (by first | (exact hc_o (by first | assumption | (exact ⟨by decide, rfl⟩))) | assumption | (exact (hc_far (by omega)).trans (by assumption))) (by omega) (by first | rfl | assumption) (by first | (exact hc_o (by first | assumption | (exact ⟨by decide, rfl⟩))) | assumption | (exact (hc_far (by omega)).trans (by assumption))) (by omega) (by first | rfl | assumption) (by first | (exact hc_o (by first | assumption | (exact ⟨by decide, rfl⟩))) | assumption | (exact (hc_far (by omega)).trans (by assumption))) (by omega) (by first | rfl | assumption) (by first | (exact hc_ai (by omega) (by first | assumption | (exact (ht9 (by assumption)).2.1) | (exact (ht9 (by assumption)).2.2.1) | (exact (ht9 (by assumption)).2.2.2) | rfl) (by decide)) | assumption | (exact (hc_far (by omega)).trans (by assumption))) (by omega) (by first | assumption | (exact ix_of (by omega) (by omega)) | (exact ⟨by decide, rfl, by decide⟩)) ?_
                refine hw_Q (hw_AI (by omega) (by first | assumption | (exact (ht9 (by assumption)).2.1) | (exact (ht9 (by assumption)).2.2.1) | (exact (ht9 (by assumption)).2.2.2) | rfl) (by decide)) ?_
                have h11 := hs.2.1.1
                show Q (.inl (some (.int (Int32.ofNat σ0.n)))) (n, sl, hc (cw 7 σ0.n (y2.I 2 3 11) y2) f0)
                rw [h11]
                have hB := hB.w (k := 7) (v := Int32.ofNat σ2.n)
                have hr := hr.w (k := 7) (m := σ0.n) (v := Int32.ofNat σ2.n) (Nat.lt_succ_self _)
                refine ok _ _ hsp (hs.w.set) ((hg.w (Nat.le_refl _)).set (Nat.le_refl _)) (hr.one ⟨fun k hk9 h7 => ?_, ?_, ?_⟩ ?_ (by omega)) (hB.1 7 (by omega)) (by show σ0.n < σ2.n; omega)
                · rcases lt9 hk9 with rfl | rfl | rfl | rfl | rfl | rfl | rfl | rfl | rfl <;> first | exact absurd rfl h7 | exact hB.1 _ hk9
                · refine hB.2.trans (hv.trans ?_)
                  rw [hk]
                  rfl
                · exact (hB.1 7 (by omega)).trans (congrArg Int32.ofNat (by omega : σ2.n = σ0.n + 1))
                · exact Or.inl rfl
              · exact cEr.kc (by decide +kernel) (by omega) ((er w (by rw [hsp, hw]; rfl)).go hg.1)
          · intro z197
            first | (exact absurd z197 (by decide)) | (exact absurd (by decide) z197) | (exact absurd rfl z197) | (exact absurd z197 (of_nn (by omega))) | (exact absurd (of_np (by omega)) z197) | omega
        · intro z154
          first | (exact absurd z154 (by decide)) | (exact absurd (by decide) z154) | (exact absurd rfl z154) | (exact absurd z154 (of_nn (by omega))) | (exact absurd (of_np (by omega)) z154) | omega
    · intro z105
      first | (exact absurd z105 (by decide)) | (exact absurd (by decide) z105) | (exact absurd rfl z105) | (exact absurd z105 (of_nn (by omega))) | (exact absurd (of_np (by omega)) z105) | omega
  · exact cEr.kc (by decide +kernel) (by omega) (er _ (ms_E_8 hk40 hop h8))
theorem ci_o22 {l2 : Int32} (hG : cG n sl f0) (hl2 : l2 + 1 = Int32.ofNat (101 - j)) (hj : j + 10 ≤ e + 9) (IH : cIE n sl f0 g L j) (h : cst a0 g L σ0) (hk : σ0.t.k = 18) (ok : cokE n sl f0 g L Q a0 σ0 (ms_E g L (j + 1) true σ0)) (er : cerE n sl f0 Q a0 (ms_E g L (j + 1) true σ0)) : mi_W (e + 9) 50 101 [some (.ref 15), some (.int l2), some (.int 18), some (.int 0), none] [] (n, sl, hc a0 f0) Q := by
  have hn := hG.1
  have hk40 : ¬ σ0.t.k = ms_kc 40 := by rw [hk]; decide
  have hop : ms_op true σ0.t.k = some 22 := by rw [hk]; decide +kernel
  unfold cokE at ok
  unfold cerE at er
  refine b_50_101 _ _ _ (by first | (exact hc_o (by first | assumption | (exact ⟨by decide, rfl⟩))) | assumption | (exact (hc_far (by omega)).trans (by assumption))) (by omega) ?_
  refine cr_node (d := e + 1) hG h (fun h8 y1 v hs hg hv hB => ?_) (fun h8 => ?_)
  · have hsp : ms_E g L (j + 1) true σ0 = .ok ((), (σ0.add.nx g L).set σ0.n (22, 0, 0, 0, 0, 0, 0, 0, 0, 0)) := ms_E_o hk40 hop (by omega)
    rw [hk] at hB
    generalize hσ1 : σ0.add.nx g L = σ1 at *
    have hn1 : σ1.n = σ0.n + 1 := by rw [← hσ1]; rfl
    have hr : crg (σ0.n + 1) σ1.n y1 σ1.tb := by rw [hn1]; exact crg.nil
    have hx := ix_of (w := σ0.n) (m := 800) (by omega) (by omega)
    have hle1 := hs.2.1.2
    refine b_50_105 _ _ _ ?_ ?_
    · intro z105
      refine b_50_148 _ _ _ ?_ ?_
      · intro z148
        first | (exact absurd z148 (by decide)) | (exact absurd (by decide) z148) | (exact absurd rfl z148) | (exact absurd z148 (of_nn (by omega))) | (exact absurd (of_np (by omega)) z148) | omega
      · intro z148
        refine b_50_154 _ _ _ ?_ ?_
        · intro z154
          refine b_50_197 _ _ _ ?_ ?_
          · intro z197
            refine b_50_223 _ _ _ ?_ ?_
            · intro z223
              refine b_50_243 _ _ _ _ _ _ (by first | (exact hc_o (by first | assumption | (exact ⟨by decide, rfl⟩))) | assumption | (exact (hc_far (by omega)).trans (by assumption))) (by omega) (by first | rfl | assumption) (by first | (exact hc_o (by first | assumption | (exact ⟨by decide, rfl⟩))) | assumption | (exact (hc_far (by omega)).trans (by assumption))) (by omega) (by first | rfl | assumption) (by first | (exact hc_o (by first | assumption | (exact ⟨by decide, rfl⟩))) | assumption | (exact (hc_far (by omega)).trans (by assumption))) (by omega) (by first | rfl | assumption) (by first | (exact hc_o (by first | assumption | (exact ⟨by decide, rfl⟩))) | assumption | (exact (hc_far (by omega)).trans (by assumption))) (by omega) (by first | rfl | assumption) (by first | (exact hc_ai (by omega) (by first | assumption | (exact (ht9 (by assumption)).2.1) | (exact (ht9 (by assumption)).2.2.1) | (exact (ht9 (by assumption)).2.2.2) | rfl) (by decide)) | assumption | (exact (hc_far (by omega)).trans (by assumption))) (by omega) (by first | assumption | (exact ix_of (by omega) (by omega)) | (exact ⟨by decide, rfl, by decide⟩)) ?_
              refine hw_Q (hw_AI (by omega) (by first | assumption | (exact (ht9 (by assumption)).2.1) | (exact (ht9 (by assumption)).2.2.1) | (exact (ht9 (by assumption)).2.2.2) | rfl) (by decide)) ?_
              have h11 := hs.2.1.1
              show Q (.inl (some (.int (Int32.ofNat σ0.n)))) (n, sl, hc (cw 7 σ0.n (y1.I 2 3 11) y1) f0)
              rw [h11]
              have hB := hB.w (k := 7) (v := Int32.ofNat σ1.n)
              have hr := hr.w (k := 7) (m := σ0.n) (v := Int32.ofNat σ1.n) (Nat.lt_succ_self _)
              refine ok _ _ hsp (hs.w.set) ((hg.w (Nat.le_refl _)).set (Nat.le_refl _)) (hr.one ⟨fun k hk9 h7 => ?_, ?_, ?_⟩ ?_ (by omega)) (hB.1 7 (by omega)) (by show σ0.n < σ1.n; omega)
              · rcases lt9 hk9 with rfl | rfl | rfl | rfl | rfl | rfl | rfl | rfl | rfl <;> first | exact absurd rfl h7 | exact hB.1 _ hk9
              · refine hB.2.trans (hv.trans ?_)
                rw [hk]
                rfl
              · exact (hB.1 7 (by omega)).trans (congrArg Int32.ofNat (by omega : σ1.n = σ0.n + 1))
              · exact Or.inl rfl
            · intro z223
              first | (exact absurd z223 (by decide)) | (exact absurd (by decide) z223) | (exact absurd rfl z223) | (exact absurd z223 (of_nn (by omega))) | (exact absurd (of_np (by omega)) z223) | omega
          · intro z197
            first | (exact absurd z197 (by decide)) | (exact absurd (by decide) z197) | (exact absurd rfl z197) | (exact absurd z197 (of_nn (by omega))) | (exact absurd (of_np (by omega)) z197) | omega
        · intro z154
          first | (exact absurd z154 (by decide)) | (exact absurd (by decide) z154) | (exact absurd rfl z154) | (exact absurd z154 (of_nn (by omega))) | (exact absurd (of_np (by omega)) z154) | omega
    · intro z105
      first | (exact absurd z105 (by decide)) | (exact absurd (by decide) z105) | (exact absurd rfl z105) | (exact absurd z105 (of_nn (by omega))) | (exact absurd (of_np (by omega)) z105) | omega
  · exact cEr.kc (by decide +kernel) (by omega) (er _ (ms_E_8 hk40 hop h8))
theorem ci_o23 {l2 : Int32} (hG : cG n sl f0) (hl2 : l2 + 1 = Int32.ofNat (101 - j)) (hj : j + 10 ≤ e + 9) (IH : cIE n sl f0 g L j) (h : cst a0 g L σ0) (hk : σ0.t.k = 19) (ok : cokE n sl f0 g L Q a0 σ0 (ms_E g L (j + 1) true σ0)) (er : cerE n sl f0 Q a0 (ms_E g L (j + 1) true σ0)) : mi_W (e + 9) 50 101 [some (.ref 15), some (.int l2), some (.int 19), some (.int 0), none] [] (n, sl, hc a0 f0) Q := by
  have hn := hG.1
  have hk40 : ¬ σ0.t.k = ms_kc 40 := by rw [hk]; decide
  have hop : ms_op true σ0.t.k = some 23 := by rw [hk]; decide +kernel
  unfold cokE at ok
  unfold cerE at er
  refine b_50_101 _ _ _ (by first | (exact hc_o (by first | assumption | (exact ⟨by decide, rfl⟩))) | assumption | (exact (hc_far (by omega)).trans (by assumption))) (by omega) ?_
  refine cr_node (d := e + 1) hG h (fun h8 y1 v hs hg hv hB => ?_) (fun h8 => ?_)
  · have hsp : ms_E g L (j + 1) true σ0 = .ok ((), (σ0.add.nx g L).set σ0.n (23, 0, 0, 0, 0, 0, 0, 0, 0, 0)) := ms_E_o hk40 hop (by omega)
    rw [hk] at hB
    generalize hσ1 : σ0.add.nx g L = σ1 at *
    have hn1 : σ1.n = σ0.n + 1 := by rw [← hσ1]; rfl
    have hr : crg (σ0.n + 1) σ1.n y1 σ1.tb := by rw [hn1]; exact crg.nil
    have hx := ix_of (w := σ0.n) (m := 800) (by omega) (by omega)
    have hle1 := hs.2.1.2
    refine b_50_105 _ _ _ ?_ ?_
    · intro z105
      refine b_50_148 _ _ _ ?_ ?_
      · intro z148
        first | (exact absurd z148 (by decide)) | (exact absurd (by decide) z148) | (exact absurd rfl z148) | (exact absurd z148 (of_nn (by omega))) | (exact absurd (of_np (by omega)) z148) | omega
      · intro z148
        refine b_50_154 _ _ _ ?_ ?_
        · intro z154
          refine b_50_197 _ _ _ ?_ ?_
          · intro z197
            refine b_50_223 _ _ _ ?_ ?_
            · intro z223
              refine b_50_243 _ _ _ _ _ _ (by first | (exact hc_o (by first | assumption | (exact ⟨by decide, rfl⟩))) | assumption | (exact (hc_far (by omega)).trans (by assumption))) (by omega) (by first | rfl | assumption) (by first | (exact hc_o (by first | assumption | (exact ⟨by decide, rfl⟩))) | assumption | (exact (hc_far (by omega)).trans (by assumption))) (by omega) (by first | rfl | assumption) (by first | (exact hc_o (by first | assumption | (exact ⟨by decide, rfl⟩))) | assumption | (exact (hc_far (by omega)).trans (by assumption))) (by omega) (by first | rfl | assumption) (by first | (exact hc_o (by first | assumption | (exact ⟨by decide, rfl⟩))) | assumption | (exact (hc_far (by omega)).trans (by assumption))) (by omega) (by first | rfl | assumption) (by first | (exact hc_ai (by omega) (by first | assumption | (exact (ht9 (by assumption)).2.1) | (exact (ht9 (by assumption)).2.2.1) | (exact (ht9 (by assumption)).2.2.2) | rfl) (by decide)) | assumption | (exact (hc_far (by omega)).trans (by assumption))) (by omega) (by first | assumption | (exact ix_of (by omega) (by omega)) | (exact ⟨by decide, rfl, by decide⟩)) ?_
              refine hw_Q (hw_AI (by omega) (by first | assumption | (exact (ht9 (by assumption)).2.1) | (exact (ht9 (by assumption)).2.2.1) | (exact (ht9 (by assumption)).2.2.2) | rfl) (by decide)) ?_
              have h11 := hs.2.1.1
              show Q (.inl (some (.int (Int32.ofNat σ0.n)))) (n, sl, hc (cw 7 σ0.n (y1.I 2 3 11) y1) f0)
              rw [h11]
              have hB := hB.w (k := 7) (v := Int32.ofNat σ1.n)
              have hr := hr.w (k := 7) (m := σ0.n) (v := Int32.ofNat σ1.n) (Nat.lt_succ_self _)
              refine ok _ _ hsp (hs.w.set) ((hg.w (Nat.le_refl _)).set (Nat.le_refl _)) (hr.one ⟨fun k hk9 h7 => ?_, ?_, ?_⟩ ?_ (by omega)) (hB.1 7 (by omega)) (by show σ0.n < σ1.n; omega)
              · rcases lt9 hk9 with rfl | rfl | rfl | rfl | rfl | rfl | rfl | rfl | rfl <;> first | exact absurd rfl h7 | exact hB.1 _ hk9
              · refine hB.2.trans (hv.trans ?_)
                rw [hk]
                rfl
              · exact (hB.1 7 (by omega)).trans (congrArg Int32.ofNat (by omega : σ1.n = σ0.n + 1))
              · exact Or.inl rfl
            · intro z223
              first | (exact absurd z223 (by decide)) | (exact absurd (by decide) z223) | (exact absurd rfl z223) | (exact absurd z223 (of_nn (by omega))) | (exact absurd (of_np (by omega)) z223) | omega
          · intro z197
            first | (exact absurd z197 (by decide)) | (exact absurd (by decide) z197) | (exact absurd rfl z197) | (exact absurd z197 (of_nn (by omega))) | (exact absurd (of_np (by omega)) z197) | omega
        · intro z154
          first | (exact absurd z154 (by decide)) | (exact absurd (by decide) z154) | (exact absurd rfl z154) | (exact absurd z154 (of_nn (by omega))) | (exact absurd (of_np (by omega)) z154) | omega
    · intro z105
      first | (exact absurd z105 (by decide)) | (exact absurd (by decide) z105) | (exact absurd rfl z105) | (exact absurd z105 (of_nn (by omega))) | (exact absurd (of_np (by omega)) z105) | omega
  · exact cEr.kc (by decide +kernel) (by omega) (er _ (ms_E_8 hk40 hop h8))
end
