/-! the first object: count, state, wallet, inputs -/
section
variable {d e n sl fd many : Nat} {a a' : mh_A} {f0 : Nat → mi_C} {Q : (Option Value ⊕ Nat) → mi_H → Prop} {oc : Nat → Int32} {wr x y z : Int32} {w : Nat → Int64} {ins : Nat → mv_I} {ev : mv_Z} {re : ma_R} {con : Option mx_K} {v : Int64}
theorem cCo.i9 (h : cCo a con) : (con = none ∧ a.I 0 0 9 = 0) ∨ ∃ K, con = some K ∧ cKo a K ∧ a.I 0 0 9 = 1 := by
  cases con with
  | none => exact Or.inl ⟨rfl, h⟩
  | some K => exact Or.inr ⟨K, rfl, h, h.1⟩
theorem cq_count (hn : 575 ≤ n) (hN : n < 601000 ∧ sl ≤ 7293000) (h : cX a fd oc wr w many ins ev re con) (K1 : (¬ ∃ i, i ≤ 10 ∧ x = Int32.ofNat i) → Q (.inr n) (n + 1, sl + 6, hc a (va_up f0 n (.inr (15, []))))) (K0 : ∀ i, i ≤ 10 → x = Int32.ofNat i → Q (.inl (some (.int (mx_cv many ev re i con)))) (n, sl, hc a f0)) : mi_W (d + 1) 134 0 (mi_en 2 [.ref 0, .int x]) [] (n, sl, hc a f0) Q := by
  have e6 : a.I 8 42 6 = Int32.ofNat ev.ws.1 := h.2.2.2.2.1.1.1
  have e7 : a.I 8 42 7 = Int32.ofNat ev.ps.1 := h.2.2.2.2.1.2.1
  have e5 : a.I 6 35 5 = Int32.ofNat many := h.2.2.2.1.1
  have e10 : a.I 11 54 10 = Int32.ofNat re.2.1 := h.2.2.2.2.2.1.1
  have e11 := h.2.2.2.2.2.1.fl.1
  have hC := h.2.2.2.2.2.2.i9
  by_cases hx : ∃ i, i ≤ 10 ∧ x = Int32.ofNat i
  · obtain ⟨i, hi4, rfl⟩ := hx
    have k0 := K0 i hi4 rfl
    clear K0 K1
    rcases hC with ⟨hc, e9⟩ | ⟨K, hc, hK, e9⟩
    · subst hc
      rcases (by omega : i = 0 ∨ i = 1 ∨ i = 2 ∨ i = 3 ∨ i = 4 ∨ i = 5 ∨ i = 6 ∨ i = 7 ∨ i = 8 ∨ i = 9 ∨ i = 10) with rfl | rfl | rfl | rfl | rfl | rfl | rfl | rfl | rfl | rfl | rfl
      · show mi_W (d + 1) 134 0 (mi_en 2 [.ref 0, .int 0]) [] (n, sl, hc a f0) Q
        refine b_134_0 _ _ _ ?_ ?_
        · intro z0
          first | (exact absurd z0 (by decide)) | (exact absurd (by decide) z0) | (exact absurd rfl z0) | (exact absurd z0 (of_nn (by omega))) | (exact absurd (of_np (by omega)) z0) | omega
        · intro z0
          refine b_134_4 _ _ _ ?_ ?_
          · intro z4
            refine b_134_20 (t3 := 80) _ _ _ (by decide +kernel) ?_
            refine b_134_80 _ _ _ (by first | (exact hc_o (by first | assumption | (exact ⟨by decide, rfl⟩))) | assumption | (exact (hc_far (by omega)).trans (by assumption))) (by omega) (by first | rfl | assumption) ?_ ?_
            · intro z80
              refine b_134_97 _ _ _ ?_
              refine b_134_98 _ _ _ ?_
              exact k0
            · intro z80
              exact absurd e9 z80
          · intro z4
            first | (exact absurd z4 (by decide)) | (exact absurd (by decide) z4) | (exact absurd rfl z4) | (exact absurd z4 (of_nn (by omega))) | (exact absurd (of_np (by omega)) z4) | omega
      · show mi_W (d + 1) 134 0 (mi_en 2 [.ref 0, .int 1]) [] (n, sl, hc a f0) Q
        refine b_134_0 _ _ _ ?_ ?_
        · intro z0
          first | (exact absurd z0 (by decide)) | (exact absurd (by decide) z0) | (exact absurd rfl z0) | (exact absurd z0 (of_nn (by omega))) | (exact absurd (of_np (by omega)) z0) | omega
        · intro z0
          refine b_134_4 _ _ _ ?_ ?_
          · intro z4
            refine b_134_20 (t3 := 145) _ _ _ (by decide +kernel) ?_
            refine b_134_145 _ _ _ (by first | (exact hc_o (by first | assumption | (exact ⟨by decide, rfl⟩))) | assumption | (exact (hc_far (by omega)).trans (by assumption))) (by omega) (by first | rfl | assumption) ?_ ?_
            · intro z145
              refine b_134_160 _ _ _ ?_
              refine b_134_161 _ _ _ ?_
              exact k0
            · intro z145
              exact absurd e9 z145
          · intro z4
            first | (exact absurd z4 (by decide)) | (exact absurd (by decide) z4) | (exact absurd rfl z4) | (exact absurd z4 (of_nn (by omega))) | (exact absurd (of_np (by omega)) z4) | omega
      · show mi_W (d + 1) 134 0 (mi_en 2 [.ref 0, .int 2]) [] (n, sl, hc a f0) Q
        refine b_134_0 _ _ _ ?_ ?_
        · intro z0
          first | (exact absurd z0 (by decide)) | (exact absurd (by decide) z0) | (exact absurd rfl z0) | (exact absurd z0 (of_nn (by omega))) | (exact absurd (of_np (by omega)) z0) | omega
        · intro z0
          refine b_134_4 _ _ _ ?_ ?_
          · intro z4
            refine b_134_20 (t3 := 145) _ _ _ (by decide +kernel) ?_
            refine b_134_145 _ _ _ (by first | (exact hc_o (by first | assumption | (exact ⟨by decide, rfl⟩))) | assumption | (exact (hc_far (by omega)).trans (by assumption))) (by omega) (by first | rfl | assumption) ?_ ?_
            · intro z145
              refine b_134_160 _ _ _ ?_
              refine b_134_161 _ _ _ ?_
              exact k0
            · intro z145
              exact absurd e9 z145
          · intro z4
            first | (exact absurd z4 (by decide)) | (exact absurd (by decide) z4) | (exact absurd rfl z4) | (exact absurd z4 (of_nn (by omega))) | (exact absurd (of_np (by omega)) z4) | omega
      · show mi_W (d + 1) 134 0 (mi_en 2 [.ref 0, .int 3]) [] (n, sl, hc a f0) Q
        refine b_134_0 _ _ _ ?_ ?_
        · intro z0
          first | (exact absurd z0 (by decide)) | (exact absurd (by decide) z0) | (exact absurd rfl z0) | (exact absurd z0 (of_nn (by omega))) | (exact absurd (of_np (by omega)) z0) | omega
        · intro z0
          refine b_134_4 _ _ _ ?_ ?_
          · intro z4
            refine b_134_20 (t3 := 145) _ _ _ (by decide +kernel) ?_
            refine b_134_145 _ _ _ (by first | (exact hc_o (by first | assumption | (exact ⟨by decide, rfl⟩))) | assumption | (exact (hc_far (by omega)).trans (by assumption))) (by omega) (by first | rfl | assumption) ?_ ?_
            · intro z145
              refine b_134_160 _ _ _ ?_
              refine b_134_161 _ _ _ ?_
              exact k0
            · intro z145
              exact absurd e9 z145
          · intro z4
            first | (exact absurd z4 (by decide)) | (exact absurd (by decide) z4) | (exact absurd rfl z4) | (exact absurd z4 (of_nn (by omega))) | (exact absurd (of_np (by omega)) z4) | omega
      · show mi_W (d + 1) 134 0 (mi_en 2 [.ref 0, .int 4]) [] (n, sl, hc a f0) Q
        refine b_134_0 _ _ _ ?_ ?_
        · intro z0
          first | (exact absurd z0 (by decide)) | (exact absurd (by decide) z0) | (exact absurd rfl z0) | (exact absurd z0 (of_nn (by omega))) | (exact absurd (of_np (by omega)) z0) | omega
        · intro z0
          refine b_134_4 _ _ _ ?_ ?_
          · intro z4
            refine b_134_20 (t3 := 145) _ _ _ (by decide +kernel) ?_
            refine b_134_145 _ _ _ (by first | (exact hc_o (by first | assumption | (exact ⟨by decide, rfl⟩))) | assumption | (exact (hc_far (by omega)).trans (by assumption))) (by omega) (by first | rfl | assumption) ?_ ?_
            · intro z145
              refine b_134_160 _ _ _ ?_
              refine b_134_161 _ _ _ ?_
              exact k0
            · intro z145
              exact absurd e9 z145
          · intro z4
            first | (exact absurd z4 (by decide)) | (exact absurd (by decide) z4) | (exact absurd rfl z4) | (exact absurd z4 (of_nn (by omega))) | (exact absurd (of_np (by omega)) z4) | omega
      · show mi_W (d + 1) 134 0 (mi_en 2 [.ref 0, .int 5]) [] (n, sl, hc a f0) Q
        refine b_134_0 _ _ _ ?_ ?_
        · intro z0
          first | (exact absurd z0 (by decide)) | (exact absurd (by decide) z0) | (exact absurd rfl z0) | (exact absurd z0 (of_nn (by omega))) | (exact absurd (of_np (by omega)) z0) | omega
        · intro z0
          refine b_134_4 _ _ _ ?_ ?_
          · intro z4
            refine b_134_20 (t3 := 145) _ _ _ (by decide +kernel) ?_
            refine b_134_145 _ _ _ (by first | (exact hc_o (by first | assumption | (exact ⟨by decide, rfl⟩))) | assumption | (exact (hc_far (by omega)).trans (by assumption))) (by omega) (by first | rfl | assumption) ?_ ?_
            · intro z145
              refine b_134_160 _ _ _ ?_
              refine b_134_161 _ _ _ ?_
              exact k0
            · intro z145
              exact absurd e9 z145
          · intro z4
            first | (exact absurd z4 (by decide)) | (exact absurd (by decide) z4) | (exact absurd rfl z4) | (exact absurd z4 (of_nn (by omega))) | (exact absurd (of_np (by omega)) z4) | omega
      · show mi_W (d + 1) 134 0 (mi_en 2 [.ref 0, .int 6]) [] (n, sl, hc a f0) Q
        refine b_134_0 _ _ _ ?_ ?_
        · intro z0
          first | (exact absurd z0 (by decide)) | (exact absurd (by decide) z0) | (exact absurd rfl z0) | (exact absurd z0 (of_nn (by omega))) | (exact absurd (of_np (by omega)) z0) | omega
        · intro z0
          refine b_134_4 _ _ _ ?_ ?_
          · intro z4
            refine b_134_20 (t3 := 99) _ _ _ (by decide +kernel) ?_
            refine b_134_99 _ _ _ (by first | (exact hc_o (by first | assumption | (exact ⟨by decide, rfl⟩))) | assumption | (exact (hc_far (by omega)).trans (by assumption))) (by omega) (by first | rfl | assumption) (by first | (exact hc_o (by first | assumption | (exact ⟨by decide, rfl⟩))) | assumption | (exact (hc_far (by omega)).trans (by assumption))) (by omega) (by first | rfl | assumption) ?_
            rw [e5]
            exact k0
          · intro z4
            first | (exact absurd z4 (by decide)) | (exact absurd (by decide) z4) | (exact absurd rfl z4) | (exact absurd z4 (of_nn (by omega))) | (exact absurd (of_np (by omega)) z4) | omega
      · show mi_W (d + 1) 134 0 (mi_en 2 [.ref 0, .int 7]) [] (n, sl, hc a f0) Q
        refine b_134_0 _ _ _ ?_ ?_
        · intro z0
          first | (exact absurd z0 (by decide)) | (exact absurd (by decide) z0) | (exact absurd rfl z0) | (exact absurd z0 (of_nn (by omega))) | (exact absurd (of_np (by omega)) z0) | omega
        · intro z0
          refine b_134_4 _ _ _ ?_ ?_
          · intro z4
            refine b_134_20 (t3 := 107) _ _ _ (by decide +kernel) ?_
            refine b_134_107 _ _ _ (by first | (exact hc_o (by first | assumption | (exact ⟨by decide, rfl⟩))) | assumption | (exact (hc_far (by omega)).trans (by assumption))) (by omega) (by first | rfl | assumption) (by first | (exact hc_o (by first | assumption | (exact ⟨by decide, rfl⟩))) | assumption | (exact (hc_far (by omega)).trans (by assumption))) (by omega) (by first | rfl | assumption) (by first | (exact hc_o (by first | assumption | (exact ⟨by decide, rfl⟩))) | assumption | (exact (hc_far (by omega)).trans (by assumption))) (by omega) (by first | rfl | assumption) ?_
            rw [e6]
            exact k0
          · intro z4
            first | (exact absurd z4 (by decide)) | (exact absurd (by decide) z4) | (exact absurd rfl z4) | (exact absurd z4 (of_nn (by omega))) | (exact absurd (of_np (by omega)) z4) | omega
      · show mi_W (d + 1) 134 0 (mi_en 2 [.ref 0, .int 8]) [] (n, sl, hc a f0) Q
        refine b_134_0 _ _ _ ?_ ?_
        · intro z0
          first | (exact absurd z0 (by decide)) | (exact absurd (by decide) z0) | (exact absurd rfl z0) | (exact absurd z0 (of_nn (by omega))) | (exact absurd (of_np (by omega)) z0) | omega
        · intro z0
          refine b_134_4 _ _ _ ?_ ?_
          · intro z4
            refine b_134_20 (t3 := 118) _ _ _ (by decide +kernel) ?_
            refine b_134_118 _ _ _ (by first | (exact hc_o (by first | assumption | (exact ⟨by decide, rfl⟩))) | assumption | (exact (hc_far (by omega)).trans (by assumption))) (by omega) (by first | rfl | assumption) (by first | (exact hc_o (by first | assumption | (exact ⟨by decide, rfl⟩))) | assumption | (exact (hc_far (by omega)).trans (by assumption))) (by omega) (by first | rfl | assumption) (by first | (exact hc_o (by first | assumption | (exact ⟨by decide, rfl⟩))) | assumption | (exact (hc_far (by omega)).trans (by assumption))) (by omega) (by first | rfl | assumption) ?_
            rw [e7]
            exact k0
          · intro z4
            first | (exact absurd z4 (by decide)) | (exact absurd (by decide) z4) | (exact absurd rfl z4) | (exact absurd z4 (of_nn (by omega))) | (exact absurd (of_np (by omega)) z4) | omega
      · show mi_W (d + 1) 134 0 (mi_en 2 [.ref 0, .int 9]) [] (n, sl, hc a f0) Q
        refine b_134_0 _ _ _ ?_ ?_
        · intro z0
          first | (exact absurd z0 (by decide)) | (exact absurd (by decide) z0) | (exact absurd rfl z0) | (exact absurd z0 (of_nn (by omega))) | (exact absurd (of_np (by omega)) z0) | omega
        · intro z0
          refine b_134_4 _ _ _ ?_ ?_
          · intro z4
            refine b_134_20 (t3 := 129) _ _ _ (by decide +kernel) ?_
            refine b_134_129 _ _ _ (by first | (exact hc_o (by first | assumption | (exact ⟨by decide, rfl⟩))) | assumption | (exact (hc_far (by omega)).trans (by assumption))) (by omega) (by first | rfl | assumption) (by first | (exact hc_o (by first | assumption | (exact ⟨by decide, rfl⟩))) | assumption | (exact (hc_far (by omega)).trans (by assumption))) (by omega) (by first | rfl | assumption) ?_
            rw [e10]
            exact k0
          · intro z4
            first | (exact absurd z4 (by decide)) | (exact absurd (by decide) z4) | (exact absurd rfl z4) | (exact absurd z4 (of_nn (by omega))) | (exact absurd (of_np (by omega)) z4) | omega
      · show mi_W (d + 1) 134 0 (mi_en 2 [.ref 0, .int 10]) [] (n, sl, hc a f0) Q
        refine b_134_0 _ _ _ ?_ ?_
        · intro z0
          first | (exact absurd z0 (by decide)) | (exact absurd (by decide) z0) | (exact absurd rfl z0) | (exact absurd z0 (of_nn (by omega))) | (exact absurd (of_np (by omega)) z0) | omega
        · intro z0
          refine b_134_4 _ _ _ ?_ ?_
          · intro z4
            refine b_134_20 (t3 := 137) _ _ _ (by decide +kernel) ?_
            refine b_134_137 _ _ _ (by first | (exact hc_o (by first | assumption | (exact ⟨by decide, rfl⟩))) | assumption | (exact (hc_far (by omega)).trans (by assumption))) (by omega) (by first | rfl | assumption) (by first | (exact hc_o (by first | assumption | (exact ⟨by decide, rfl⟩))) | assumption | (exact (hc_far (by omega)).trans (by assumption))) (by omega) (by first | rfl | assumption) ?_
            rw [e11]
            exact k0
          · intro z4
            first | (exact absurd z4 (by decide)) | (exact absurd (by decide) z4) | (exact absurd rfl z4) | (exact absurd z4 (of_nn (by omega))) | (exact absurd (of_np (by omega)) z4) | omega
    · subst hc
      obtain ⟨-, hT, hS, c1, c2, c3, c4⟩ := hK
      have c5 : a.I 2 3 11 = Int32.ofNat K.1.1 := hT.1.1.1
      have c6 : a.I 9 497 0 = Int32.ofNat K.2.1.at := hS.2.1.1
      have n9 : ¬ a.I 0 0 9 = 0 := by rw [e9]; decide
      rcases (by omega : i = 0 ∨ i = 1 ∨ i = 2 ∨ i = 3 ∨ i = 4 ∨ i = 5 ∨ i = 6 ∨ i = 7 ∨ i = 8 ∨ i = 9 ∨ i = 10) with rfl | rfl | rfl | rfl | rfl | rfl | rfl | rfl | rfl | rfl | rfl
      · show mi_W (d + 1) 134 0 (mi_en 2 [.ref 0, .int 0]) [] (n, sl, hc a f0) Q
        refine b_134_0 _ _ _ ?_ ?_
        · intro z0
          first | (exact absurd z0 (by decide)) | (exact absurd (by decide) z0) | (exact absurd rfl z0) | (exact absurd z0 (of_nn (by omega))) | (exact absurd (of_np (by omega)) z0) | omega
        · intro z0
          refine b_134_4 _ _ _ ?_ ?_
          · intro z4
            refine b_134_20 (t3 := 80) _ _ _ (by decide +kernel) ?_
            refine b_134_80 _ _ _ (by first | (exact hc_o (by first | assumption | (exact ⟨by decide, rfl⟩))) | assumption | (exact (hc_far (by omega)).trans (by assumption))) (by omega) (by first | rfl | assumption) ?_ ?_
            · intro z80
              exact absurd z80 n9
            · intro z80
              refine b_134_87 _ _ _ (by first | (exact hc_o (by first | assumption | (exact ⟨by decide, rfl⟩))) | assumption | (exact (hc_far (by omega)).trans (by assumption))) (by omega) (by first | rfl | assumption) (by first | (exact hc_o (by first | assumption | (exact ⟨by decide, rfl⟩))) | assumption | (exact (hc_far (by omega)).trans (by assumption))) (by omega) (by first | rfl | assumption) ?_
              refine b_134_98 _ _ _ ?_
              rw [c6]
              exact k0
          · intro z4
            first | (exact absurd z4 (by decide)) | (exact absurd (by decide) z4) | (exact absurd rfl z4) | (exact absurd z4 (of_nn (by omega))) | (exact absurd (of_np (by omega)) z4) | omega
      · show mi_W (d + 1) 134 0 (mi_en 2 [.ref 0, .int 1]) [] (n, sl, hc a f0) Q
        have hT' : ∀ d', mi_W d' 135 0 (mi_en 2 [.ref 0, .int 1]) [] (n, sl, hc a f0) (fun o h => o = .inl (some (.int (mx_cv many ev re 1 (some K)))) ∧ h = (n, sl, hc a f0)) := by
          intro d'
          refine b_135_0 (t3 := 32) _ _ _ (by decide +kernel) ?_
          refine b_135_32 _ _ _ (by first | (exact hc_o (by first | assumption | (exact ⟨by decide, rfl⟩))) | assumption | (exact (hc_far (by omega)).trans (by assumption))) (by omega) (by first | rfl | assumption) (by first | (exact hc_o (by first | assumption | (exact ⟨by decide, rfl⟩))) | assumption | (exact (hc_far (by omega)).trans (by assumption))) (by omega) (by first | rfl | assumption) ?_
          rw [c5]
          exact ⟨rfl, rfl⟩
        refine b_134_0 _ _ _ ?_ ?_
        · intro z0
          first | (exact absurd z0 (by decide)) | (exact absurd (by decide) z0) | (exact absurd rfl z0) | (exact absurd z0 (of_nn (by omega))) | (exact absurd (of_np (by omega)) z0) | omega
        · intro z0
          refine b_134_4 _ _ _ ?_ ?_
          · intro z4
            refine b_134_20 (t3 := 145) _ _ _ (by decide +kernel) ?_
            refine b_134_145 _ _ _ (by first | (exact hc_o (by first | assumption | (exact ⟨by decide, rfl⟩))) | assumption | (exact (hc_far (by omega)).trans (by assumption))) (by omega) (by first | rfl | assumption) ?_ ?_
            · intro z145
              exact absurd z145 n9
            · intro z145
              refine b_134_152 _ _ _ (by first | (exact hc_o (by first | assumption | (exact ⟨by decide, rfl⟩))) | assumption | (exact (hc_far (by omega)).trans (by assumption))) (by omega) ?_
              refine (hT' _).mono (fun o h' ⟨h1, h2⟩ => ?_)
              subst h1 h2
              refine b_134_157 _ _ _ ?_
              refine b_134_161 _ _ _ ?_
              exact k0
          · intro z4
            first | (exact absurd z4 (by decide)) | (exact absurd (by decide) z4) | (exact absurd rfl z4) | (exact absurd z4 (of_nn (by omega))) | (exact absurd (of_np (by omega)) z4) | omega
      · show mi_W (d + 1) 134 0 (mi_en 2 [.ref 0, .int 2]) [] (n, sl, hc a f0) Q
        have hT' : ∀ d', mi_W d' 135 0 (mi_en 2 [.ref 0, .int 2]) [] (n, sl, hc a f0) (fun o h => o = .inl (some (.int (mx_cv many ev re 2 (some K)))) ∧ h = (n, sl, hc a f0)) := by
          intro d'
          refine b_135_0 (t3 := 40) _ _ _ (by decide +kernel) ?_
          refine b_135_40 _ _ _ (by first | (exact hc_o (by first | assumption | (exact ⟨by decide, rfl⟩))) | assumption | (exact (hc_far (by omega)).trans (by assumption))) (by omega) (by first | rfl | assumption) (by first | (exact hc_o (by first | assumption | (exact ⟨by decide, rfl⟩))) | assumption | (exact (hc_far (by omega)).trans (by assumption))) (by omega) (by first | rfl | assumption) (by first | (exact hc_o (by first | assumption | (exact ⟨by decide, rfl⟩))) | assumption | (exact (hc_far (by omega)).trans (by assumption))) (by omega) (by first | rfl | assumption) ?_
          rw [c1]
          exact ⟨rfl, rfl⟩
        refine b_134_0 _ _ _ ?_ ?_
        · intro z0
          first | (exact absurd z0 (by decide)) | (exact absurd (by decide) z0) | (exact absurd rfl z0) | (exact absurd z0 (of_nn (by omega))) | (exact absurd (of_np (by omega)) z0) | omega
        · intro z0
          refine b_134_4 _ _ _ ?_ ?_
          · intro z4
            refine b_134_20 (t3 := 145) _ _ _ (by decide +kernel) ?_
            refine b_134_145 _ _ _ (by first | (exact hc_o (by first | assumption | (exact ⟨by decide, rfl⟩))) | assumption | (exact (hc_far (by omega)).trans (by assumption))) (by omega) (by first | rfl | assumption) ?_ ?_
            · intro z145
              exact absurd z145 n9
            · intro z145
              refine b_134_152 _ _ _ (by first | (exact hc_o (by first | assumption | (exact ⟨by decide, rfl⟩))) | assumption | (exact (hc_far (by omega)).trans (by assumption))) (by omega) ?_
              refine (hT' _).mono (fun o h' ⟨h1, h2⟩ => ?_)
              subst h1 h2
              refine b_134_157 _ _ _ ?_
              refine b_134_161 _ _ _ ?_
              exact k0
          · intro z4
            first | (exact absurd z4 (by decide)) | (exact absurd (by decide) z4) | (exact absurd rfl z4) | (exact absurd z4 (of_nn (by omega))) | (exact absurd (of_np (by omega)) z4) | omega
      · show mi_W (d + 1) 134 0 (mi_en 2 [.ref 0, .int 3]) [] (n, sl, hc a f0) Q
        have hT' : ∀ d', mi_W d' 135 0 (mi_en 2 [.ref 0, .int 3]) [] (n, sl, hc a f0) (fun o h => o = .inl (some (.int (mx_cv many ev re 3 (some K)))) ∧ h = (n, sl, hc a f0)) := by
          intro d'
          refine b_135_0 (t3 := 51) _ _ _ (by decide +kernel) ?_
          refine b_135_51 _ _ _ (by first | (exact hc_o (by first | assumption | (exact ⟨by decide, rfl⟩))) | assumption | (exact (hc_far (by omega)).trans (by assumption))) (by omega) (by first | rfl | assumption) (by first | (exact hc_o (by first | assumption | (exact ⟨by decide, rfl⟩))) | assumption | (exact (hc_far (by omega)).trans (by assumption))) (by omega) (by first | rfl | assumption) (by first | (exact hc_o (by first | assumption | (exact ⟨by decide, rfl⟩))) | assumption | (exact (hc_far (by omega)).trans (by assumption))) (by omega) (by first | rfl | assumption) ?_
          rw [c2]
          exact ⟨rfl, rfl⟩
        refine b_134_0 _ _ _ ?_ ?_
        · intro z0
          first | (exact absurd z0 (by decide)) | (exact absurd (by decide) z0) | (exact absurd rfl z0) | (exact absurd z0 (of_nn (by omega))) | (exact absurd (of_np (by omega)) z0) | omega
        · intro z0
          refine b_134_4 _ _ _ ?_ ?_
          · intro z4
            refine b_134_20 (t3 := 145) _ _ _ (by decide +kernel) ?_
            refine b_134_145 _ _ _ (by first | (exact hc_o (by first | assumption | (exact ⟨by decide, rfl⟩))) | assumption | (exact (hc_far (by omega)).trans (by assumption))) (by omega) (by first | rfl | assumption) ?_ ?_
            · intro z145
              exact absurd z145 n9
            · intro z145
              refine b_134_152 _ _ _ (by first | (exact hc_o (by first | assumption | (exact ⟨by decide, rfl⟩))) | assumption | (exact (hc_far (by omega)).trans (by assumption))) (by omega) ?_
              refine (hT' _).mono (fun o h' ⟨h1, h2⟩ => ?_)
              subst h1 h2
              refine b_134_157 _ _ _ ?_
              refine b_134_161 _ _ _ ?_
              exact k0
          · intro z4
            first | (exact absurd z4 (by decide)) | (exact absurd (by decide) z4) | (exact absurd rfl z4) | (exact absurd z4 (of_nn (by omega))) | (exact absurd (of_np (by omega)) z4) | omega
      · show mi_W (d + 1) 134 0 (mi_en 2 [.ref 0, .int 4]) [] (n, sl, hc a f0) Q
        have hT' : ∀ d', mi_W d' 135 0 (mi_en 2 [.ref 0, .int 4]) [] (n, sl, hc a f0) (fun o h => o = .inl (some (.int (mx_cv many ev re 4 (some K)))) ∧ h = (n, sl, hc a f0)) := by
          intro d'
          refine b_135_0 (t3 := 62) _ _ _ (by decide +kernel) ?_
          refine b_135_62 _ _ _ (by first | (exact hc_o (by first | assumption | (exact ⟨by decide, rfl⟩))) | assumption | (exact (hc_far (by omega)).trans (by assumption))) (by omega) (by first | rfl | assumption) (by first | (exact hc_o (by first | assumption | (exact ⟨by decide, rfl⟩))) | assumption | (exact (hc_far (by omega)).trans (by assumption))) (by omega) (by first | rfl | assumption) (by first | (exact hc_o (by first | assumption | (exact ⟨by decide, rfl⟩))) | assumption | (exact (hc_far (by omega)).trans (by assumption))) (by omega) (by first | rfl | assumption) ?_
          rw [c3]
          exact ⟨rfl, rfl⟩
        refine b_134_0 _ _ _ ?_ ?_
        · intro z0
          first | (exact absurd z0 (by decide)) | (exact absurd (by decide) z0) | (exact absurd rfl z0) | (exact absurd z0 (of_nn (by omega))) | (exact absurd (of_np (by omega)) z0) | omega
        · intro z0
          refine b_134_4 _ _ _ ?_ ?_
          · intro z4
            refine b_134_20 (t3 := 145) _ _ _ (by decide +kernel) ?_
            refine b_134_145 _ _ _ (by first | (exact hc_o (by first | assumption | (exact ⟨by decide, rfl⟩))) | assumption | (exact (hc_far (by omega)).trans (by assumption))) (by omega) (by first | rfl | assumption) ?_ ?_
            · intro z145
              exact absurd z145 n9
            · intro z145
              refine b_134_152 _ _ _ (by first | (exact hc_o (by first | assumption | (exact ⟨by decide, rfl⟩))) | assumption | (exact (hc_far (by omega)).trans (by assumption))) (by omega) ?_
              refine (hT' _).mono (fun o h' ⟨h1, h2⟩ => ?_)
              subst h1 h2
              refine b_134_157 _ _ _ ?_
              refine b_134_161 _ _ _ ?_
              exact k0
          · intro z4
            first | (exact absurd z4 (by decide)) | (exact absurd (by decide) z4) | (exact absurd rfl z4) | (exact absurd z4 (of_nn (by omega))) | (exact absurd (of_np (by omega)) z4) | omega
      · show mi_W (d + 1) 134 0 (mi_en 2 [.ref 0, .int 5]) [] (n, sl, hc a f0) Q
        have hT' : ∀ d', mi_W d' 135 0 (mi_en 2 [.ref 0, .int 5]) [] (n, sl, hc a f0) (fun o h => o = .inl (some (.int (mx_cv many ev re 5 (some K)))) ∧ h = (n, sl, hc a f0)) := by
          intro d'
          refine b_135_0 (t3 := 73) _ _ _ (by decide +kernel) ?_
          refine b_135_73 _ _ _ (by first | (exact hc_o (by first | assumption | (exact ⟨by decide, rfl⟩))) | assumption | (exact (hc_far (by omega)).trans (by assumption))) (by omega) (by first | rfl | assumption) (by first | (exact hc_o (by first | assumption | (exact ⟨by decide, rfl⟩))) | assumption | (exact (hc_far (by omega)).trans (by assumption))) (by omega) (by first | rfl | assumption) (by first | (exact hc_o (by first | assumption | (exact ⟨by decide, rfl⟩))) | assumption | (exact (hc_far (by omega)).trans (by assumption))) (by omega) (by first | rfl | assumption) ?_
          rw [c4]
          exact ⟨rfl, rfl⟩
        refine b_134_0 _ _ _ ?_ ?_
        · intro z0
          first | (exact absurd z0 (by decide)) | (exact absurd (by decide) z0) | (exact absurd rfl z0) | (exact absurd z0 (of_nn (by omega))) | (exact absurd (of_np (by omega)) z0) | omega
        · intro z0
          refine b_134_4 _ _ _ ?_ ?_
          · intro z4
            refine b_134_20 (t3 := 145) _ _ _ (by decide +kernel) ?_
            refine b_134_145 _ _ _ (by first | (exact hc_o (by first | assumption | (exact ⟨by decide, rfl⟩))) | assumption | (exact (hc_far (by omega)).trans (by assumption))) (by omega) (by first | rfl | assumption) ?_ ?_
            · intro z145
              exact absurd z145 n9
            · intro z145
              refine b_134_152 _ _ _ (by first | (exact hc_o (by first | assumption | (exact ⟨by decide, rfl⟩))) | assumption | (exact (hc_far (by omega)).trans (by assumption))) (by omega) ?_
              refine (hT' _).mono (fun o h' ⟨h1, h2⟩ => ?_)
              subst h1 h2
              refine b_134_157 _ _ _ ?_
              refine b_134_161 _ _ _ ?_
              exact k0
          · intro z4
            first | (exact absurd z4 (by decide)) | (exact absurd (by decide) z4) | (exact absurd rfl z4) | (exact absurd z4 (of_nn (by omega))) | (exact absurd (of_np (by omega)) z4) | omega
      · show mi_W (d + 1) 134 0 (mi_en 2 [.ref 0, .int 6]) [] (n, sl, hc a f0) Q
        refine b_134_0 _ _ _ ?_ ?_
        · intro z0
          first | (exact absurd z0 (by decide)) | (exact absurd (by decide) z0) | (exact absurd rfl z0) | (exact absurd z0 (of_nn (by omega))) | (exact absurd (of_np (by omega)) z0) | omega
        · intro z0
          refine b_134_4 _ _ _ ?_ ?_
          · intro z4
            refine b_134_20 (t3 := 99) _ _ _ (by decide +kernel) ?_
            refine b_134_99 _ _ _ (by first | (exact hc_o (by first | assumption | (exact ⟨by decide, rfl⟩))) | assumption | (exact (hc_far (by omega)).trans (by assumption))) (by omega) (by first | rfl | assumption) (by first | (exact hc_o (by first | assumption | (exact ⟨by decide, rfl⟩))) | assumption | (exact (hc_far (by omega)).trans (by assumption))) (by omega) (by first | rfl | assumption) ?_
            rw [e5]
            exact k0
          · intro z4
            first | (exact absurd z4 (by decide)) | (exact absurd (by decide) z4) | (exact absurd rfl z4) | (exact absurd z4 (of_nn (by omega))) | (exact absurd (of_np (by omega)) z4) | omega
      · show mi_W (d + 1) 134 0 (mi_en 2 [.ref 0, .int 7]) [] (n, sl, hc a f0) Q
        refine b_134_0 _ _ _ ?_ ?_
        · intro z0
          first | (exact absurd z0 (by decide)) | (exact absurd (by decide) z0) | (exact absurd rfl z0) | (exact absurd z0 (of_nn (by omega))) | (exact absurd (of_np (by omega)) z0) | omega
        · intro z0
          refine b_134_4 _ _ _ ?_ ?_
          · intro z4
            refine b_134_20 (t3 := 107) _ _ _ (by decide +kernel) ?_
            refine b_134_107 _ _ _ (by first | (exact hc_o (by first | assumption | (exact ⟨by decide, rfl⟩))) | assumption | (exact (hc_far (by omega)).trans (by assumption))) (by omega) (by first | rfl | assumption) (by first | (exact hc_o (by first | assumption | (exact ⟨by decide, rfl⟩))) | assumption | (exact (hc_far (by omega)).trans (by assumption))) (by omega) (by first | rfl | assumption) (by first | (exact hc_o (by first | assumption | (exact ⟨by decide, rfl⟩))) | assumption | (exact (hc_far (by omega)).trans (by assumption))) (by omega) (by first | rfl | assumption) ?_
            rw [e6]
            exact k0
          · intro z4
            first | (exact absurd z4 (by decide)) | (exact absurd (by decide) z4) | (exact absurd rfl z4) | (exact absurd z4 (of_nn (by omega))) | (exact absurd (of_np (by omega)) z4) | omega
      · show mi_W (d + 1) 134 0 (mi_en 2 [.ref 0, .int 8]) [] (n, sl, hc a f0) Q
        refine b_134_0 _ _ _ ?_ ?_
        · intro z0
          first | (exact absurd z0 (by decide)) | (exact absurd (by decide) z0) | (exact absurd rfl z0) | (exact absurd z0 (of_nn (by omega))) | (exact absurd (of_np (by omega)) z0) | omega
        · intro z0
          refine b_134_4 _ _ _ ?_ ?_
          · intro z4
            refine b_134_20 (t3 := 118) _ _ _ (by decide +kernel) ?_
            refine b_134_118 _ _ _ (by first | (exact hc_o (by first | assumption | (exact ⟨by decide, rfl⟩))) | assumption | (exact (hc_far (by omega)).trans (by assumption))) (by omega) (by first | rfl | assumption) (by first | (exact hc_o (by first | assumption | (exact ⟨by decide, rfl⟩))) | assumption | (exact (hc_far (by omega)).trans (by assumption))) (by omega) (by first | rfl | assumption) (by first | (exact hc_o (by first | assumption | (exact ⟨by decide, rfl⟩))) | assumption | (exact (hc_far (by omega)).trans (by assumption))) (by omega) (by first | rfl | assumption) ?_
            rw [e7]
            exact k0
          · intro z4
            first | (exact absurd z4 (by decide)) | (exact absurd (by decide) z4) | (exact absurd rfl z4) | (exact absurd z4 (of_nn (by omega))) | (exact absurd (of_np (by omega)) z4) | omega
      · show mi_W (d + 1) 134 0 (mi_en 2 [.ref 0, .int 9]) [] (n, sl, hc a f0) Q
        refine b_134_0 _ _ _ ?_ ?_
        · intro z0
          first | (exact absurd z0 (by decide)) | (exact absurd (by decide) z0) | (exact absurd rfl z0) | (exact absurd z0 (of_nn (by omega))) | (exact absurd (of_np (by omega)) z0) | omega
        · intro z0
          refine b_134_4 _ _ _ ?_ ?_
          · intro z4
            refine b_134_20 (t3 := 129) _ _ _ (by decide +kernel) ?_
            refine b_134_129 _ _ _ (by first | (exact hc_o (by first | assumption | (exact ⟨by decide, rfl⟩))) | assumption | (exact (hc_far (by omega)).trans (by assumption))) (by omega) (by first | rfl | assumption) (by first | (exact hc_o (by first | assumption | (exact ⟨by decide, rfl⟩))) | assumption | (exact (hc_far (by omega)).trans (by assumption))) (by omega) (by first | rfl | assumption) ?_
            rw [e10]
            exact k0
          · intro z4
            first | (exact absurd z4 (by decide)) | (exact absurd (by decide) z4) | (exact absurd rfl z4) | (exact absurd z4 (of_nn (by omega))) | (exact absurd (of_np (by omega)) z4) | omega
      · show mi_W (d + 1) 134 0 (mi_en 2 [.ref 0, .int 10]) [] (n, sl, hc a f0) Q
        refine b_134_0 _ _ _ ?_ ?_
        · intro z0
          first | (exact absurd z0 (by decide)) | (exact absurd (by decide) z0) | (exact absurd rfl z0) | (exact absurd z0 (of_nn (by omega))) | (exact absurd (of_np (by omega)) z0) | omega
        · intro z0
          refine b_134_4 _ _ _ ?_ ?_
          · intro z4
            refine b_134_20 (t3 := 137) _ _ _ (by decide +kernel) ?_
            refine b_134_137 _ _ _ (by first | (exact hc_o (by first | assumption | (exact ⟨by decide, rfl⟩))) | assumption | (exact (hc_far (by omega)).trans (by assumption))) (by omega) (by first | rfl | assumption) (by first | (exact hc_o (by first | assumption | (exact ⟨by decide, rfl⟩))) | assumption | (exact (hc_far (by omega)).trans (by assumption))) (by omega) (by first | rfl | assumption) ?_
            rw [e11]
            exact k0
          · intro z4
            first | (exact absurd z4 (by decide)) | (exact absurd (by decide) z4) | (exact absurd rfl z4) | (exact absurd z4 (of_nn (by omega))) | (exact absurd (of_np (by omega)) z4) | omega
  · have hno := K1 hx
    have hm := fun h => hx ((mp_of (p := x) (m := 10) (by decide)).mp h)
    unfold mp_r at hm
    refine b_134_0 _ _ _ ?_ ?_
    · intro z0
      refine b_134_10 _ _ _ (mi_tq_ok (ce := 15) (by decide +kernel) (by omega) (by omega)) ?_
      refine hw_Q (hc_out (by omega)) ?_
      exact hno
    · intro z0
      refine b_134_4 _ _ _ ?_ ?_
      · intro z4
        exact absurd ⟨z0, Int32.not_lt.mpr z4⟩ hm
      · intro z4
        refine b_134_10 _ _ _ (mi_tq_ok (ce := 15) (by decide +kernel) (by omega) (by omega)) ?_
        refine hw_Q (hc_out (by omega)) ?_
        exact hno
end
