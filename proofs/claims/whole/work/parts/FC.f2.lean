/-! the second object: count, state, wallet -/
section
variable {d e r n sl fd many : Nat} {b b' : mg_A} {f0 : Nat → mi_C} {Q : (Option Value ⊕ Nat) → mi_H → Prop} {oc : Nat → Int32} {wr x y z c : Int32} {w : Nat → Int64} {ins : Nat → mv_I} {ev : mv_Z} {re : ma_R} {con : Option mx_K} {v : Int64}
theorem gCo.i4 (h : gCo b con) : (con = none ∧ b.I 505 4 = -1) ∨ ∃ K, con = some K ∧ gKo b K ∧ b.I 505 4 = 0 := by
  cases con with
  | none => exact Or.inl ⟨rfl, h⟩
  | some K => exact Or.inr ⟨K, rfl, h, h.1⟩
theorem mg_o531 {D : Nat → Nat} : mg_o D 531 := ⟨by decide, rfl, rfl, rfl, rfl, rfl, rfl⟩
theorem mg_o537 {D : Nat → Nat} : mg_o D 537 := ⟨by decide, rfl, rfl, rfl, rfl, rfl, rfl⟩
theorem gq_count (h : gX r n sl b fd oc wr w many ins ev re con) (K1 : (¬ ∃ i, i ≤ 10 ∧ x = Int32.ofNat i) → ∀ b', gX r n sl b' fd oc wr w many ins ev re con → b'.I 505 0 = 1 → Q (.inl (some (.int 0))) (n, sl, hd b' f0)) (K0 : ∀ i, i ≤ 10 → x = Int32.ofNat i → ∀ b', gX r n sl b' fd oc wr w many ins ev re con → b'.I 505 0 = 0 → Q (.inl (some (.int (mx_cv many ev re i con)))) (n, sl, hd b' f0)) : mi_W (d + 1) 203 0 (mi_en 2 [.ref 505, .int x]) [] (n, sl, hd b f0) Q := by
  have hn := h.2.2.2.2.2.2.2.1.nn.1
  have hC := h.2.2.2.2.2.2.1.i4
  have e6 : b.I 505 65 = Int32.ofNat ev.ws.1 := h.2.2.2.2.1.1.1
  have e7 : b.I 505 66 = Int32.ofNat ev.ps.1 := h.2.2.2.2.1.2.1
  have e5 : b.I 505 59 = Int32.ofNat many := h.2.2.2.1.1
  have e10 : b.I 505 73 = Int32.ofNat re.2.1 := h.2.2.2.2.2.1.1
  have e11 := h.2.2.2.2.2.1.fl.1
  have hx4 := mp_r64 (p := x) (b := 10) (b' := 10) rfl
  have hxo := mp_of (p := x) (m := 10) (by decide)
  have o531 := mg_o531 (D := b.D)
  by_cases hx : ∃ i, i ≤ 10 ∧ x = Int32.ofNat i
  · have hxg := hx4.mpr (hxo.mpr hx)
    obtain ⟨i, hi4, rfl⟩ := hx
    have k0 := K0 i hi4 rfl _ h.er rfl
    clear K0 K1
    rcases hC with ⟨hc, e4⟩ | ⟨K, hc, hK, e4⟩
    · subst hc
      have n4 : ¬ (0 : Int32) ≤ b.I 505 4 := by rw [e4]; decide
      rcases (by omega : i = 0 ∨ i = 1 ∨ i = 2 ∨ i = 3 ∨ i = 4 ∨ i = 5 ∨ i = 6 ∨ i = 7 ∨ i = 8 ∨ i = 9 ∨ i = 10) with rfl | rfl | rfl | rfl | rfl | rfl | rfl | rfl | rfl | rfl | rfl
      · show mi_W (d + 1) 203 0 (mi_en 2 [.ref 505, .int 0]) [] (n, sl, hd b f0) Q
        refine b_203_0 _ _ _ (by first | (exact hd_9) | assumption) (by omega) (by rw [mL_len]; decide) ?_
        refine hw_W (gw_X (by decide)) ?_
        refine s_in (fun _ => ?_) (fun g => ?_)
        · refine b_203_15 _ _ _ ?_ ?_
          · intro z15
            refine b_203_22 _ _ _ ?_
            refine b_203_23 _ _ _ (by first | (exact hd_9) | assumption) (by omega) ?_
            refine g_fl0 hn rfl ?_
            refine b_203_27 _ _ _ ?_ ?_
            · intro z27
              refine b_203_32 _ _ _ ?_ ?_
              · intro z32
                first | (exact absurd z32 (by decide)) | (exact absurd (by decide) z32) | (exact absurd rfl z32) | (exact absurd z32 (of_nn (by omega))) | (exact absurd (of_np (by omega)) z32) | omega
              · intro z32
                refine b_203_38 _ _ _ (by first | (exact hd_9) | assumption) (by omega) (by exact mL_get (by decide)) ?_ ?_
                · intro z38
                  exact absurd z38 n4
                · intro z38
                  refine b_203_45 _ _ _ ?_ ?_
                  · intro z45
                    first | (exact absurd z45 (by decide)) | (exact absurd (by decide) z45) | (exact absurd rfl z45) | (exact absurd z45 (of_nn (by omega))) | (exact absurd (of_np (by omega)) z45) | omega
                  · intro z45
                    refine b_203_49 _ _ _ ?_
                    refine b_203_54 _ _ _ ?_
                    exact k0
            · intro z27
              first | (exact absurd z27 (by decide)) | (exact absurd (by decide) z27) | (exact absurd rfl z27) | (exact absurd z27 (of_nn (by omega))) | (exact absurd (of_np (by omega)) z27) | omega
          · intro z15
            first | (exact absurd z15 (by decide)) | (exact absurd (by decide) z15) | (exact absurd rfl z15) | (exact absurd z15 (of_nn (by omega))) | (exact absurd (of_np (by omega)) z15) | omega
        · exact absurd hxg g
      · show mi_W (d + 1) 203 0 (mi_en 2 [.ref 505, .int 1]) [] (n, sl, hd b f0) Q
        refine b_203_0 _ _ _ (by first | (exact hd_9) | assumption) (by omega) (by rw [mL_len]; decide) ?_
        refine hw_W (gw_X (by decide)) ?_
        refine s_in (fun _ => ?_) (fun g => ?_)
        · refine b_203_15 _ _ _ ?_ ?_
          · intro z15
            refine b_203_22 _ _ _ ?_
            refine b_203_23 _ _ _ (by first | (exact hd_9) | assumption) (by omega) ?_
            refine g_fl0 hn rfl ?_
            refine b_203_27 _ _ _ ?_ ?_
            · intro z27
              refine b_203_32 _ _ _ ?_ ?_
              · intro z32
                first | (exact absurd z32 (by decide)) | (exact absurd (by decide) z32) | (exact absurd rfl z32) | (exact absurd z32 (of_nn (by omega))) | (exact absurd (of_np (by omega)) z32) | omega
              · intro z32
                refine b_203_38 _ _ _ (by first | (exact hd_9) | assumption) (by omega) (by exact mL_get (by decide)) ?_ ?_
                · intro z38
                  exact absurd z38 n4
                · intro z38
                  refine b_203_45 _ _ _ ?_ ?_
                  · intro z45
                    refine b_203_53 _ _ _ ?_
                    refine b_203_54 _ _ _ ?_
                    exact k0
                  · intro z45
                    first | (exact absurd z45 (by decide)) | (exact absurd (by decide) z45) | (exact absurd rfl z45) | (exact absurd z45 (of_nn (by omega))) | (exact absurd (of_np (by omega)) z45) | omega
            · intro z27
              first | (exact absurd z27 (by decide)) | (exact absurd (by decide) z27) | (exact absurd rfl z27) | (exact absurd z27 (of_nn (by omega))) | (exact absurd (of_np (by omega)) z27) | omega
          · intro z15
            first | (exact absurd z15 (by decide)) | (exact absurd (by decide) z15) | (exact absurd rfl z15) | (exact absurd z15 (of_nn (by omega))) | (exact absurd (of_np (by omega)) z15) | omega
        · exact absurd hxg g
      · show mi_W (d + 1) 203 0 (mi_en 2 [.ref 505, .int 2]) [] (n, sl, hd b f0) Q
        refine b_203_0 _ _ _ (by first | (exact hd_9) | assumption) (by omega) (by rw [mL_len]; decide) ?_
        refine hw_W (gw_X (by decide)) ?_
        refine s_in (fun _ => ?_) (fun g => ?_)
        · refine b_203_15 _ _ _ ?_ ?_
          · intro z15
            refine b_203_22 _ _ _ ?_
            refine b_203_23 _ _ _ (by first | (exact hd_9) | assumption) (by omega) ?_
            refine g_fl0 hn rfl ?_
            refine b_203_27 _ _ _ ?_ ?_
            · intro z27
              refine b_203_32 _ _ _ ?_ ?_
              · intro z32
                first | (exact absurd z32 (by decide)) | (exact absurd (by decide) z32) | (exact absurd rfl z32) | (exact absurd z32 (of_nn (by omega))) | (exact absurd (of_np (by omega)) z32) | omega
              · intro z32
                refine b_203_38 _ _ _ (by first | (exact hd_9) | assumption) (by omega) (by exact mL_get (by decide)) ?_ ?_
                · intro z38
                  exact absurd z38 n4
                · intro z38
                  refine b_203_45 _ _ _ ?_ ?_
                  · intro z45
                    refine b_203_53 _ _ _ ?_
                    refine b_203_54 _ _ _ ?_
                    exact k0
                  · intro z45
                    first | (exact absurd z45 (by decide)) | (exact absurd (by decide) z45) | (exact absurd rfl z45) | (exact absurd z45 (of_nn (by omega))) | (exact absurd (of_np (by omega)) z45) | omega
            · intro z27
              first | (exact absurd z27 (by decide)) | (exact absurd (by decide) z27) | (exact absurd rfl z27) | (exact absurd z27 (of_nn (by omega))) | (exact absurd (of_np (by omega)) z27) | omega
          · intro z15
            first | (exact absurd z15 (by decide)) | (exact absurd (by decide) z15) | (exact absurd rfl z15) | (exact absurd z15 (of_nn (by omega))) | (exact absurd (of_np (by omega)) z15) | omega
        · exact absurd hxg g
      · show mi_W (d + 1) 203 0 (mi_en 2 [.ref 505, .int 3]) [] (n, sl, hd b f0) Q
        refine b_203_0 _ _ _ (by first | (exact hd_9) | assumption) (by omega) (by rw [mL_len]; decide) ?_
        refine hw_W (gw_X (by decide)) ?_
        refine s_in (fun _ => ?_) (fun g => ?_)
        · refine b_203_15 _ _ _ ?_ ?_
          · intro z15
            refine b_203_22 _ _ _ ?_
            refine b_203_23 _ _ _ (by first | (exact hd_9) | assumption) (by omega) ?_
            refine g_fl0 hn rfl ?_
            refine b_203_27 _ _ _ ?_ ?_
            · intro z27
              refine b_203_32 _ _ _ ?_ ?_
              · intro z32
                first | (exact absurd z32 (by decide)) | (exact absurd (by decide) z32) | (exact absurd rfl z32) | (exact absurd z32 (of_nn (by omega))) | (exact absurd (of_np (by omega)) z32) | omega
              · intro z32
                refine b_203_38 _ _ _ (by first | (exact hd_9) | assumption) (by omega) (by exact mL_get (by decide)) ?_ ?_
                · intro z38
                  exact absurd z38 n4
                · intro z38
                  refine b_203_45 _ _ _ ?_ ?_
                  · intro z45
                    refine b_203_53 _ _ _ ?_
                    refine b_203_54 _ _ _ ?_
                    exact k0
                  · intro z45
                    first | (exact absurd z45 (by decide)) | (exact absurd (by decide) z45) | (exact absurd rfl z45) | (exact absurd z45 (of_nn (by omega))) | (exact absurd (of_np (by omega)) z45) | omega
            · intro z27
              first | (exact absurd z27 (by decide)) | (exact absurd (by decide) z27) | (exact absurd rfl z27) | (exact absurd z27 (of_nn (by omega))) | (exact absurd (of_np (by omega)) z27) | omega
          · intro z15
            first | (exact absurd z15 (by decide)) | (exact absurd (by decide) z15) | (exact absurd rfl z15) | (exact absurd z15 (of_nn (by omega))) | (exact absurd (of_np (by omega)) z15) | omega
        · exact absurd hxg g
      · show mi_W (d + 1) 203 0 (mi_en 2 [.ref 505, .int 4]) [] (n, sl, hd b f0) Q
        refine b_203_0 _ _ _ (by first | (exact hd_9) | assumption) (by omega) (by rw [mL_len]; decide) ?_
        refine hw_W (gw_X (by decide)) ?_
        refine s_in (fun _ => ?_) (fun g => ?_)
        · refine b_203_15 _ _ _ ?_ ?_
          · intro z15
            refine b_203_22 _ _ _ ?_
            refine b_203_23 _ _ _ (by first | (exact hd_9) | assumption) (by omega) ?_
            refine g_fl0 hn rfl ?_
            refine b_203_27 _ _ _ ?_ ?_
            · intro z27
              refine b_203_32 _ _ _ ?_ ?_
              · intro z32
                first | (exact absurd z32 (by decide)) | (exact absurd (by decide) z32) | (exact absurd rfl z32) | (exact absurd z32 (of_nn (by omega))) | (exact absurd (of_np (by omega)) z32) | omega
              · intro z32
                refine b_203_38 _ _ _ (by first | (exact hd_9) | assumption) (by omega) (by exact mL_get (by decide)) ?_ ?_
                · intro z38
                  exact absurd z38 n4
                · intro z38
                  refine b_203_45 _ _ _ ?_ ?_
                  · intro z45
                    refine b_203_53 _ _ _ ?_
                    refine b_203_54 _ _ _ ?_
                    exact k0
                  · intro z45
                    first | (exact absurd z45 (by decide)) | (exact absurd (by decide) z45) | (exact absurd rfl z45) | (exact absurd z45 (of_nn (by omega))) | (exact absurd (of_np (by omega)) z45) | omega
            · intro z27
              first | (exact absurd z27 (by decide)) | (exact absurd (by decide) z27) | (exact absurd rfl z27) | (exact absurd z27 (of_nn (by omega))) | (exact absurd (of_np (by omega)) z27) | omega
          · intro z15
            first | (exact absurd z15 (by decide)) | (exact absurd (by decide) z15) | (exact absurd rfl z15) | (exact absurd z15 (of_nn (by omega))) | (exact absurd (of_np (by omega)) z15) | omega
        · exact absurd hxg g
      · show mi_W (d + 1) 203 0 (mi_en 2 [.ref 505, .int 5]) [] (n, sl, hd b f0) Q
        refine b_203_0 _ _ _ (by first | (exact hd_9) | assumption) (by omega) (by rw [mL_len]; decide) ?_
        refine hw_W (gw_X (by decide)) ?_
        refine s_in (fun _ => ?_) (fun g => ?_)
        · refine b_203_15 _ _ _ ?_ ?_
          · intro z15
            refine b_203_22 _ _ _ ?_
            refine b_203_23 _ _ _ (by first | (exact hd_9) | assumption) (by omega) ?_
            refine g_fl0 hn rfl ?_
            refine b_203_27 _ _ _ ?_ ?_
            · intro z27
              refine b_203_32 _ _ _ ?_ ?_
              · intro z32
                first | (exact absurd z32 (by decide)) | (exact absurd (by decide) z32) | (exact absurd rfl z32) | (exact absurd z32 (of_nn (by omega))) | (exact absurd (of_np (by omega)) z32) | omega
              · intro z32
                refine b_203_38 _ _ _ (by first | (exact hd_9) | assumption) (by omega) (by exact mL_get (by decide)) ?_ ?_
                · intro z38
                  exact absurd z38 n4
                · intro z38
                  refine b_203_45 _ _ _ ?_ ?_
                  · intro z45
                    refine b_203_53 _ _ _ ?_
                    refine b_203_54 _ _ _ ?_
                    exact k0
                  · intro z45
                    first | (exact absurd z45 (by decide)) | (exact absurd (by decide) z45) | (exact absurd rfl z45) | (exact absurd z45 (of_nn (by omega))) | (exact absurd (of_np (by omega)) z45) | omega
            · intro z27
              first | (exact absurd z27 (by decide)) | (exact absurd (by decide) z27) | (exact absurd rfl z27) | (exact absurd z27 (of_nn (by omega))) | (exact absurd (of_np (by omega)) z27) | omega
          · intro z15
            first | (exact absurd z15 (by decide)) | (exact absurd (by decide) z15) | (exact absurd rfl z15) | (exact absurd z15 (of_nn (by omega))) | (exact absurd (of_np (by omega)) z15) | omega
        · exact absurd hxg g
      · show mi_W (d + 1) 203 0 (mi_en 2 [.ref 505, .int 6]) [] (n, sl, hd b f0) Q
        refine b_203_0 _ _ _ (by first | (exact hd_9) | assumption) (by omega) (by rw [mL_len]; decide) ?_
        refine hw_W (gw_X (by decide)) ?_
        refine s_in (fun _ => ?_) (fun g => ?_)
        · refine b_203_15 _ _ _ ?_ ?_
          · intro z15
            refine b_203_22 _ _ _ ?_
            refine b_203_23 _ _ _ (by first | (exact hd_9) | assumption) (by omega) ?_
            refine g_fl0 hn rfl ?_
            refine b_203_27 _ _ _ ?_ ?_
            · intro z27
              refine b_203_32 _ _ _ ?_ ?_
              · intro z32
                refine b_203_55 (t3 := 145) _ _ _ (by decide +kernel) ?_
                refine b_203_145 _ _ _ (by first | (exact hd_9) | assumption) (by omega) (by exact mL_get (by decide)) ?_
                show Q (.inl (some (.int (b.I 505 59)))) _
                rw [e5]
                exact k0
              · intro z32
                first | (exact absurd z32 (by decide)) | (exact absurd (by decide) z32) | (exact absurd rfl z32) | (exact absurd z32 (of_nn (by omega))) | (exact absurd (of_np (by omega)) z32) | omega
            · intro z27
              first | (exact absurd z27 (by decide)) | (exact absurd (by decide) z27) | (exact absurd rfl z27) | (exact absurd z27 (of_nn (by omega))) | (exact absurd (of_np (by omega)) z27) | omega
          · intro z15
            first | (exact absurd z15 (by decide)) | (exact absurd (by decide) z15) | (exact absurd rfl z15) | (exact absurd z15 (of_nn (by omega))) | (exact absurd (of_np (by omega)) z15) | omega
        · exact absurd hxg g
      · show mi_W (d + 1) 203 0 (mi_en 2 [.ref 505, .int 7]) [] (n, sl, hd b f0) Q
        refine b_203_0 _ _ _ (by first | (exact hd_9) | assumption) (by omega) (by rw [mL_len]; decide) ?_
        refine hw_W (gw_X (by decide)) ?_
        refine s_in (fun _ => ?_) (fun g => ?_)
        · refine b_203_15 _ _ _ ?_ ?_
          · intro z15
            refine b_203_22 _ _ _ ?_
            refine b_203_23 _ _ _ (by first | (exact hd_9) | assumption) (by omega) ?_
            refine g_fl0 hn rfl ?_
            refine b_203_27 _ _ _ ?_ ?_
            · intro z27
              refine b_203_32 _ _ _ ?_ ?_
              · intro z32
                refine b_203_55 (t3 := 150) _ _ _ (by decide +kernel) ?_
                refine b_203_150 _ _ _ (by first | (exact hd_9) | assumption) (by omega) (by exact mL_get (by decide)) ?_
                show Q (.inl (some (.int (b.I 505 65)))) _
                rw [e6]
                exact k0
              · intro z32
                first | (exact absurd z32 (by decide)) | (exact absurd (by decide) z32) | (exact absurd rfl z32) | (exact absurd z32 (of_nn (by omega))) | (exact absurd (of_np (by omega)) z32) | omega
            · intro z27
              first | (exact absurd z27 (by decide)) | (exact absurd (by decide) z27) | (exact absurd rfl z27) | (exact absurd z27 (of_nn (by omega))) | (exact absurd (of_np (by omega)) z27) | omega
          · intro z15
            first | (exact absurd z15 (by decide)) | (exact absurd (by decide) z15) | (exact absurd rfl z15) | (exact absurd z15 (of_nn (by omega))) | (exact absurd (of_np (by omega)) z15) | omega
        · exact absurd hxg g
      · show mi_W (d + 1) 203 0 (mi_en 2 [.ref 505, .int 8]) [] (n, sl, hd b f0) Q
        refine b_203_0 _ _ _ (by first | (exact hd_9) | assumption) (by omega) (by rw [mL_len]; decide) ?_
        refine hw_W (gw_X (by decide)) ?_
        refine s_in (fun _ => ?_) (fun g => ?_)
        · refine b_203_15 _ _ _ ?_ ?_
          · intro z15
            refine b_203_22 _ _ _ ?_
            refine b_203_23 _ _ _ (by first | (exact hd_9) | assumption) (by omega) ?_
            refine g_fl0 hn rfl ?_
            refine b_203_27 _ _ _ ?_ ?_
            · intro z27
              refine b_203_32 _ _ _ ?_ ?_
              · intro z32
                refine b_203_55 (t3 := 155) _ _ _ (by decide +kernel) ?_
                refine b_203_155 _ _ _ (by first | (exact hd_9) | assumption) (by omega) (by exact mL_get (by decide)) ?_
                show Q (.inl (some (.int (b.I 505 66)))) _
                rw [e7]
                exact k0
              · intro z32
                first | (exact absurd z32 (by decide)) | (exact absurd (by decide) z32) | (exact absurd rfl z32) | (exact absurd z32 (of_nn (by omega))) | (exact absurd (of_np (by omega)) z32) | omega
            · intro z27
              first | (exact absurd z27 (by decide)) | (exact absurd (by decide) z27) | (exact absurd rfl z27) | (exact absurd z27 (of_nn (by omega))) | (exact absurd (of_np (by omega)) z27) | omega
          · intro z15
            first | (exact absurd z15 (by decide)) | (exact absurd (by decide) z15) | (exact absurd rfl z15) | (exact absurd z15 (of_nn (by omega))) | (exact absurd (of_np (by omega)) z15) | omega
        · exact absurd hxg g
      · show mi_W (d + 1) 203 0 (mi_en 2 [.ref 505, .int 9]) [] (n, sl, hd b f0) Q
        refine b_203_0 _ _ _ (by first | (exact hd_9) | assumption) (by omega) (by rw [mL_len]; decide) ?_
        refine hw_W (gw_X (by decide)) ?_
        refine s_in (fun _ => ?_) (fun g => ?_)
        · refine b_203_15 _ _ _ ?_ ?_
          · intro z15
            refine b_203_22 _ _ _ ?_
            refine b_203_23 _ _ _ (by first | (exact hd_9) | assumption) (by omega) ?_
            refine g_fl0 hn rfl ?_
            refine b_203_27 _ _ _ ?_ ?_
            · intro z27
              refine b_203_32 _ _ _ ?_ ?_
              · intro z32
                refine b_203_55 (t3 := 160) _ _ _ (by decide +kernel) ?_
                refine b_203_160 _ _ _ (by first | (exact hd_9) | assumption) (by omega) (by exact mL_get (by decide)) ?_
                show Q (.inl (some (.int (b.I 505 73)))) _
                rw [e10]
                exact k0
              · intro z32
                first | (exact absurd z32 (by decide)) | (exact absurd (by decide) z32) | (exact absurd rfl z32) | (exact absurd z32 (of_nn (by omega))) | (exact absurd (of_np (by omega)) z32) | omega
            · intro z27
              first | (exact absurd z27 (by decide)) | (exact absurd (by decide) z27) | (exact absurd rfl z27) | (exact absurd z27 (of_nn (by omega))) | (exact absurd (of_np (by omega)) z27) | omega
          · intro z15
            first | (exact absurd z15 (by decide)) | (exact absurd (by decide) z15) | (exact absurd rfl z15) | (exact absurd z15 (of_nn (by omega))) | (exact absurd (of_np (by omega)) z15) | omega
        · exact absurd hxg g
      · show mi_W (d + 1) 203 0 (mi_en 2 [.ref 505, .int 10]) [] (n, sl, hd b f0) Q
        refine b_203_0 _ _ _ (by first | (exact hd_9) | assumption) (by omega) (by rw [mL_len]; decide) ?_
        refine hw_W (gw_X (by decide)) ?_
        refine s_in (fun _ => ?_) (fun g => ?_)
        · refine b_203_15 _ _ _ ?_ ?_
          · intro z15
            refine b_203_22 _ _ _ ?_
            refine b_203_23 _ _ _ (by first | (exact hd_9) | assumption) (by omega) ?_
            refine g_fl0 hn rfl ?_
            refine b_203_27 _ _ _ ?_ ?_
            · intro z27
              refine b_203_32 _ _ _ ?_ ?_
              · intro z32
                refine b_203_55 (t3 := 165) _ _ _ (by decide +kernel) ?_
                refine b_203_165 _ _ _ (by first | (exact hd_9) | assumption) (by omega) (by exact mL_get (by decide)) ?_
                show Q (.inl (some (.int (b.I 505 75)))) _
                rw [e11]
                exact k0
              · intro z32
                first | (exact absurd z32 (by decide)) | (exact absurd (by decide) z32) | (exact absurd rfl z32) | (exact absurd z32 (of_nn (by omega))) | (exact absurd (of_np (by omega)) z32) | omega
            · intro z27
              first | (exact absurd z27 (by decide)) | (exact absurd (by decide) z27) | (exact absurd rfl z27) | (exact absurd z27 (of_nn (by omega))) | (exact absurd (of_np (by omega)) z27) | omega
          · intro z15
            first | (exact absurd z15 (by decide)) | (exact absurd (by decide) z15) | (exact absurd rfl z15) | (exact absurd z15 (of_nn (by omega))) | (exact absurd (of_np (by omega)) z15) | omega
        · exact absurd hxg g
    · subst hc
      obtain ⟨-, hT, hS, c5, c1, c2, c3, c4⟩ := hK
      have c6 : b.P 0 531 0 = Int32.ofNat K.2.1.at := hS.2.1.1
      have n4 : (0 : Int32) ≤ b.I 505 4 := by rw [e4]; decide
      rcases (by omega : i = 0 ∨ i = 1 ∨ i = 2 ∨ i = 3 ∨ i = 4 ∨ i = 5 ∨ i = 6 ∨ i = 7 ∨ i = 8 ∨ i = 9 ∨ i = 10) with rfl | rfl | rfl | rfl | rfl | rfl | rfl | rfl | rfl | rfl | rfl
      · show mi_W (d + 1) 203 0 (mi_en 2 [.ref 505, .int 0]) [] (n, sl, hd b f0) Q
        refine b_203_0 _ _ _ (by first | (exact hd_9) | assumption) (by omega) (by rw [mL_len]; decide) ?_
        refine hw_W (gw_X (by decide)) ?_
        refine s_in (fun _ => ?_) (fun g => ?_)
        · refine b_203_15 _ _ _ ?_ ?_
          · intro z15
            refine b_203_22 _ _ _ ?_
            refine b_203_23 _ _ _ (by first | (exact hd_9) | assumption) (by omega) ?_
            refine g_fl0 hn rfl ?_
            refine b_203_27 _ _ _ ?_ ?_
            · intro z27
              refine b_203_32 _ _ _ ?_ ?_
              · intro z32
                first | (exact absurd z32 (by decide)) | (exact absurd (by decide) z32) | (exact absurd rfl z32) | (exact absurd z32 (of_nn (by omega))) | (exact absurd (of_np (by omega)) z32) | omega
              · intro z32
                refine b_203_38 _ _ _ (by first | (exact hd_9) | assumption) (by omega) (by exact mL_get (by decide)) ?_ ?_
                · intro z38
                  refine b_203_55 (t3 := 112) _ _ _ (by decide +kernel) ?_
                  refine b_203_112 _ _ _ (by first | (exact hd_9) | assumption) (by omega) (by exact mL_get (by decide)) (by first | (exact hd_8 (by assumption)) | assumption) (by omega) (by exact rfl) ?_
                  show Q (.inl (some (.int (b.P 0 531 0)))) _
                  rw [c6]
                  exact k0
                · intro z38
                  exact absurd n4 z38
            · intro z27
              first | (exact absurd z27 (by decide)) | (exact absurd (by decide) z27) | (exact absurd rfl z27) | (exact absurd z27 (of_nn (by omega))) | (exact absurd (of_np (by omega)) z27) | omega
          · intro z15
            first | (exact absurd z15 (by decide)) | (exact absurd (by decide) z15) | (exact absurd rfl z15) | (exact absurd z15 (of_nn (by omega))) | (exact absurd (of_np (by omega)) z15) | omega
        · exact absurd hxg g
      · show mi_W (d + 1) 203 0 (mi_en 2 [.ref 505, .int 1]) [] (n, sl, hd b f0) Q
        refine b_203_0 _ _ _ (by first | (exact hd_9) | assumption) (by omega) (by rw [mL_len]; decide) ?_
        refine hw_W (gw_X (by decide)) ?_
        refine s_in (fun _ => ?_) (fun g => ?_)
        · refine b_203_15 _ _ _ ?_ ?_
          · intro z15
            refine b_203_22 _ _ _ ?_
            refine b_203_23 _ _ _ (by first | (exact hd_9) | assumption) (by omega) ?_
            refine g_fl0 hn rfl ?_
            refine b_203_27 _ _ _ ?_ ?_
            · intro z27
              refine b_203_32 _ _ _ ?_ ?_
              · intro z32
                first | (exact absurd z32 (by decide)) | (exact absurd (by decide) z32) | (exact absurd rfl z32) | (exact absurd z32 (of_nn (by omega))) | (exact absurd (of_np (by omega)) z32) | omega
              · intro z32
                refine b_203_38 _ _ _ (by first | (exact hd_9) | assumption) (by omega) (by exact mL_get (by decide)) ?_ ?_
                · intro z38
                  refine b_203_55 (t3 := 120) _ _ _ (by decide +kernel) ?_
                  refine b_203_120 _ _ _ (by first | (exact hd_9) | assumption) (by omega) (by exact mL_get (by decide)) ?_
                  show Q (.inl (some (.int (b.I 505 21)))) _
                  rw [c5]
                  exact k0
                · intro z38
                  exact absurd n4 z38
            · intro z27
              first | (exact absurd z27 (by decide)) | (exact absurd (by decide) z27) | (exact absurd rfl z27) | (exact absurd z27 (of_nn (by omega))) | (exact absurd (of_np (by omega)) z27) | omega
          · intro z15
            first | (exact absurd z15 (by decide)) | (exact absurd (by decide) z15) | (exact absurd rfl z15) | (exact absurd z15 (of_nn (by omega))) | (exact absurd (of_np (by omega)) z15) | omega
        · exact absurd hxg g
      · show mi_W (d + 1) 203 0 (mi_en 2 [.ref 505, .int 2]) [] (n, sl, hd b f0) Q
        refine b_203_0 _ _ _ (by first | (exact hd_9) | assumption) (by omega) (by rw [mL_len]; decide) ?_
        refine hw_W (gw_X (by decide)) ?_
        refine s_in (fun _ => ?_) (fun g => ?_)
        · refine b_203_15 _ _ _ ?_ ?_
          · intro z15
            refine b_203_22 _ _ _ ?_
            refine b_203_23 _ _ _ (by first | (exact hd_9) | assumption) (by omega) ?_
            refine g_fl0 hn rfl ?_
            refine b_203_27 _ _ _ ?_ ?_
            · intro z27
              refine b_203_32 _ _ _ ?_ ?_
              · intro z32
                first | (exact absurd z32 (by decide)) | (exact absurd (by decide) z32) | (exact absurd rfl z32) | (exact absurd z32 (of_nn (by omega))) | (exact absurd (of_np (by omega)) z32) | omega
              · intro z32
                refine b_203_38 _ _ _ (by first | (exact hd_9) | assumption) (by omega) (by exact mL_get (by decide)) ?_ ?_
                · intro z38
                  refine b_203_55 (t3 := 125) _ _ _ (by decide +kernel) ?_
                  refine b_203_125 _ _ _ (by first | (exact hd_9) | assumption) (by omega) (by exact mL_get (by decide)) ?_
                  show Q (.inl (some (.int (b.I 505 24)))) _
                  rw [c1]
                  exact k0
                · intro z38
                  exact absurd n4 z38
            · intro z27
              first | (exact absurd z27 (by decide)) | (exact absurd (by decide) z27) | (exact absurd rfl z27) | (exact absurd z27 (of_nn (by omega))) | (exact absurd (of_np (by omega)) z27) | omega
          · intro z15
            first | (exact absurd z15 (by decide)) | (exact absurd (by decide) z15) | (exact absurd rfl z15) | (exact absurd z15 (of_nn (by omega))) | (exact absurd (of_np (by omega)) z15) | omega
        · exact absurd hxg g
      · show mi_W (d + 1) 203 0 (mi_en 2 [.ref 505, .int 3]) [] (n, sl, hd b f0) Q
        refine b_203_0 _ _ _ (by first | (exact hd_9) | assumption) (by omega) (by rw [mL_len]; decide) ?_
        refine hw_W (gw_X (by decide)) ?_
        refine s_in (fun _ => ?_) (fun g => ?_)
        · refine b_203_15 _ _ _ ?_ ?_
          · intro z15
            refine b_203_22 _ _ _ ?_
            refine b_203_23 _ _ _ (by first | (exact hd_9) | assumption) (by omega) ?_
            refine g_fl0 hn rfl ?_
            refine b_203_27 _ _ _ ?_ ?_
            · intro z27
              refine b_203_32 _ _ _ ?_ ?_
              · intro z32
                first | (exact absurd z32 (by decide)) | (exact absurd (by decide) z32) | (exact absurd rfl z32) | (exact absurd z32 (of_nn (by omega))) | (exact absurd (of_np (by omega)) z32) | omega
              · intro z32
                refine b_203_38 _ _ _ (by first | (exact hd_9) | assumption) (by omega) (by exact mL_get (by decide)) ?_ ?_
                · intro z38
                  refine b_203_55 (t3 := 130) _ _ _ (by decide +kernel) ?_
                  refine b_203_130 _ _ _ (by first | (exact hd_9) | assumption) (by omega) (by exact mL_get (by decide)) ?_
                  show Q (.inl (some (.int (b.I 505 25)))) _
                  rw [c2]
                  exact k0
                · intro z38
                  exact absurd n4 z38
            · intro z27
              first | (exact absurd z27 (by decide)) | (exact absurd (by decide) z27) | (exact absurd rfl z27) | (exact absurd z27 (of_nn (by omega))) | (exact absurd (of_np (by omega)) z27) | omega
          · intro z15
            first | (exact absurd z15 (by decide)) | (exact absurd (by decide) z15) | (exact absurd rfl z15) | (exact absurd z15 (of_nn (by omega))) | (exact absurd (of_np (by omega)) z15) | omega
        · exact absurd hxg g
      · show mi_W (d + 1) 203 0 (mi_en 2 [.ref 505, .int 4]) [] (n, sl, hd b f0) Q
        refine b_203_0 _ _ _ (by first | (exact hd_9) | assumption) (by omega) (by rw [mL_len]; decide) ?_
        refine hw_W (gw_X (by decide)) ?_
        refine s_in (fun _ => ?_) (fun g => ?_)
        · refine b_203_15 _ _ _ ?_ ?_
          · intro z15
            refine b_203_22 _ _ _ ?_
            refine b_203_23 _ _ _ (by first | (exact hd_9) | assumption) (by omega) ?_
            refine g_fl0 hn rfl ?_
            refine b_203_27 _ _ _ ?_ ?_
            · intro z27
              refine b_203_32 _ _ _ ?_ ?_
              · intro z32
                first | (exact absurd z32 (by decide)) | (exact absurd (by decide) z32) | (exact absurd rfl z32) | (exact absurd z32 (of_nn (by omega))) | (exact absurd (of_np (by omega)) z32) | omega
              · intro z32
                refine b_203_38 _ _ _ (by first | (exact hd_9) | assumption) (by omega) (by exact mL_get (by decide)) ?_ ?_
                · intro z38
                  refine b_203_55 (t3 := 135) _ _ _ (by decide +kernel) ?_
                  refine b_203_135 _ _ _ (by first | (exact hd_9) | assumption) (by omega) (by exact mL_get (by decide)) ?_
                  show Q (.inl (some (.int (b.I 505 26)))) _
                  rw [c3]
                  exact k0
                · intro z38
                  exact absurd n4 z38
            · intro z27
              first | (exact absurd z27 (by decide)) | (exact absurd (by decide) z27) | (exact absurd rfl z27) | (exact absurd z27 (of_nn (by omega))) | (exact absurd (of_np (by omega)) z27) | omega
          · intro z15
            first | (exact absurd z15 (by decide)) | (exact absurd (by decide) z15) | (exact absurd rfl z15) | (exact absurd z15 (of_nn (by omega))) | (exact absurd (of_np (by omega)) z15) | omega
        · exact absurd hxg g
      · show mi_W (d + 1) 203 0 (mi_en 2 [.ref 505, .int 5]) [] (n, sl, hd b f0) Q
        refine b_203_0 _ _ _ (by first | (exact hd_9) | assumption) (by omega) (by rw [mL_len]; decide) ?_
        refine hw_W (gw_X (by decide)) ?_
        refine s_in (fun _ => ?_) (fun g => ?_)
        · refine b_203_15 _ _ _ ?_ ?_
          · intro z15
            refine b_203_22 _ _ _ ?_
            refine b_203_23 _ _ _ (by first | (exact hd_9) | assumption) (by omega) ?_
            refine g_fl0 hn rfl ?_
            refine b_203_27 _ _ _ ?_ ?_
            · intro z27
              refine b_203_32 _ _ _ ?_ ?_
              · intro z32
                first | (exact absurd z32 (by decide)) | (exact absurd (by decide) z32) | (exact absurd rfl z32) | (exact absurd z32 (of_nn (by omega))) | (exact absurd (of_np (by omega)) z32) | omega
              · intro z32
                refine b_203_38 _ _ _ (by first | (exact hd_9) | assumption) (by omega) (by exact mL_get (by decide)) ?_ ?_
                · intro z38
                  refine b_203_55 (t3 := 140) _ _ _ (by decide +kernel) ?_
                  refine b_203_140 _ _ _ (by first | (exact hd_9) | assumption) (by omega) (by exact mL_get (by decide)) ?_
                  show Q (.inl (some (.int (b.I 505 27)))) _
                  rw [c4]
                  exact k0
                · intro z38
                  exact absurd n4 z38
            · intro z27
              first | (exact absurd z27 (by decide)) | (exact absurd (by decide) z27) | (exact absurd rfl z27) | (exact absurd z27 (of_nn (by omega))) | (exact absurd (of_np (by omega)) z27) | omega
          · intro z15
            first | (exact absurd z15 (by decide)) | (exact absurd (by decide) z15) | (exact absurd rfl z15) | (exact absurd z15 (of_nn (by omega))) | (exact absurd (of_np (by omega)) z15) | omega
        · exact absurd hxg g
      · show mi_W (d + 1) 203 0 (mi_en 2 [.ref 505, .int 6]) [] (n, sl, hd b f0) Q
        refine b_203_0 _ _ _ (by first | (exact hd_9) | assumption) (by omega) (by rw [mL_len]; decide) ?_
        refine hw_W (gw_X (by decide)) ?_
        refine s_in (fun _ => ?_) (fun g => ?_)
        · refine b_203_15 _ _ _ ?_ ?_
          · intro z15
            refine b_203_22 _ _ _ ?_
            refine b_203_23 _ _ _ (by first | (exact hd_9) | assumption) (by omega) ?_
            refine g_fl0 hn rfl ?_
            refine b_203_27 _ _ _ ?_ ?_
            · intro z27
              refine b_203_32 _ _ _ ?_ ?_
              · intro z32
                refine b_203_55 (t3 := 145) _ _ _ (by decide +kernel) ?_
                refine b_203_145 _ _ _ (by first | (exact hd_9) | assumption) (by omega) (by exact mL_get (by decide)) ?_
                show Q (.inl (some (.int (b.I 505 59)))) _
                rw [e5]
                exact k0
              · intro z32
                first | (exact absurd z32 (by decide)) | (exact absurd (by decide) z32) | (exact absurd rfl z32) | (exact absurd z32 (of_nn (by omega))) | (exact absurd (of_np (by omega)) z32) | omega
            · intro z27
              first | (exact absurd z27 (by decide)) | (exact absurd (by decide) z27) | (exact absurd rfl z27) | (exact absurd z27 (of_nn (by omega))) | (exact absurd (of_np (by omega)) z27) | omega
          · intro z15
            first | (exact absurd z15 (by decide)) | (exact absurd (by decide) z15) | (exact absurd rfl z15) | (exact absurd z15 (of_nn (by omega))) | (exact absurd (of_np (by omega)) z15) | omega
        · exact absurd hxg g
      · show mi_W (d + 1) 203 0 (mi_en 2 [.ref 505, .int 7]) [] (n, sl, hd b f0) Q
        refine b_203_0 _ _ _ (by first | (exact hd_9) | assumption) (by omega) (by rw [mL_len]; decide) ?_
        refine hw_W (gw_X (by decide)) ?_
        refine s_in (fun _ => ?_) (fun g => ?_)
        · refine b_203_15 _ _ _ ?_ ?_
          · intro z15
            refine b_203_22 _ _ _ ?_
            refine b_203_23 _ _ _ (by first | (exact hd_9) | assumption) (by omega) ?_
            refine g_fl0 hn rfl ?_
            refine b_203_27 _ _ _ ?_ ?_
            · intro z27
              refine b_203_32 _ _ _ ?_ ?_
              · intro z32
                refine b_203_55 (t3 := 150) _ _ _ (by decide +kernel) ?_
                refine b_203_150 _ _ _ (by first | (exact hd_9) | assumption) (by omega) (by exact mL_get (by decide)) ?_
                show Q (.inl (some (.int (b.I 505 65)))) _
                rw [e6]
                exact k0
              · intro z32
                first | (exact absurd z32 (by decide)) | (exact absurd (by decide) z32) | (exact absurd rfl z32) | (exact absurd z32 (of_nn (by omega))) | (exact absurd (of_np (by omega)) z32) | omega
            · intro z27
              first | (exact absurd z27 (by decide)) | (exact absurd (by decide) z27) | (exact absurd rfl z27) | (exact absurd z27 (of_nn (by omega))) | (exact absurd (of_np (by omega)) z27) | omega
          · intro z15
            first | (exact absurd z15 (by decide)) | (exact absurd (by decide) z15) | (exact absurd rfl z15) | (exact absurd z15 (of_nn (by omega))) | (exact absurd (of_np (by omega)) z15) | omega
        · exact absurd hxg g
      · show mi_W (d + 1) 203 0 (mi_en 2 [.ref 505, .int 8]) [] (n, sl, hd b f0) Q
        refine b_203_0 _ _ _ (by first | (exact hd_9) | assumption) (by omega) (by rw [mL_len]; decide) ?_
        refine hw_W (gw_X (by decide)) ?_
        refine s_in (fun _ => ?_) (fun g => ?_)
        · refine b_203_15 _ _ _ ?_ ?_
          · intro z15
            refine b_203_22 _ _ _ ?_
            refine b_203_23 _ _ _ (by first | (exact hd_9) | assumption) (by omega) ?_
            refine g_fl0 hn rfl ?_
            refine b_203_27 _ _ _ ?_ ?_
            · intro z27
              refine b_203_32 _ _ _ ?_ ?_
              · intro z32
                refine b_203_55 (t3 := 155) _ _ _ (by decide +kernel) ?_
                refine b_203_155 _ _ _ (by first | (exact hd_9) | assumption) (by omega) (by exact mL_get (by decide)) ?_
                show Q (.inl (some (.int (b.I 505 66)))) _
                rw [e7]
                exact k0
              · intro z32
                first | (exact absurd z32 (by decide)) | (exact absurd (by decide) z32) | (exact absurd rfl z32) | (exact absurd z32 (of_nn (by omega))) | (exact absurd (of_np (by omega)) z32) | omega
            · intro z27
              first | (exact absurd z27 (by decide)) | (exact absurd (by decide) z27) | (exact absurd rfl z27) | (exact absurd z27 (of_nn (by omega))) | (exact absurd (of_np (by omega)) z27) | omega
          · intro z15
            first | (exact absurd z15 (by decide)) | (exact absurd (by decide) z15) | (exact absurd rfl z15) | (exact absurd z15 (of_nn (by omega))) | (exact absurd (of_np (by omega)) z15) | omega
        · exact absurd hxg g
      · show mi_W (d + 1) 203 0 (mi_en 2 [.ref 505, .int 9]) [] (n, sl, hd b f0) Q
        refine b_203_0 _ _ _ (by first | (exact hd_9) | assumption) (by omega) (by rw [mL_len]; decide) ?_
        refine hw_W (gw_X (by decide)) ?_
        refine s_in (fun _ => ?_) (fun g => ?_)
        · refine b_203_15 _ _ _ ?_ ?_
          · intro z15
            refine b_203_22 _ _ _ ?_
            refine b_203_23 _ _ _ (by first | (exact hd_9) | assumption) (by omega) ?_
            refine g_fl0 hn rfl ?_
            refine b_203_27 _ _ _ ?_ ?_
            · intro z27
              refine b_203_32 _ _ _ ?_ ?_
              · intro z32
                refine b_203_55 (t3 := 160) _ _ _ (by decide +kernel) ?_
                refine b_203_160 _ _ _ (by first | (exact hd_9) | assumption) (by omega) (by exact mL_get (by decide)) ?_
                show Q (.inl (some (.int (b.I 505 73)))) _
                rw [e10]
                exact k0
              · intro z32
                first | (exact absurd z32 (by decide)) | (exact absurd (by decide) z32) | (exact absurd rfl z32) | (exact absurd z32 (of_nn (by omega))) | (exact absurd (of_np (by omega)) z32) | omega
            · intro z27
              first | (exact absurd z27 (by decide)) | (exact absurd (by decide) z27) | (exact absurd rfl z27) | (exact absurd z27 (of_nn (by omega))) | (exact absurd (of_np (by omega)) z27) | omega
          · intro z15
            first | (exact absurd z15 (by decide)) | (exact absurd (by decide) z15) | (exact absurd rfl z15) | (exact absurd z15 (of_nn (by omega))) | (exact absurd (of_np (by omega)) z15) | omega
        · exact absurd hxg g
      · show mi_W (d + 1) 203 0 (mi_en 2 [.ref 505, .int 10]) [] (n, sl, hd b f0) Q
        refine b_203_0 _ _ _ (by first | (exact hd_9) | assumption) (by omega) (by rw [mL_len]; decide) ?_
        refine hw_W (gw_X (by decide)) ?_
        refine s_in (fun _ => ?_) (fun g => ?_)
        · refine b_203_15 _ _ _ ?_ ?_
          · intro z15
            refine b_203_22 _ _ _ ?_
            refine b_203_23 _ _ _ (by first | (exact hd_9) | assumption) (by omega) ?_
            refine g_fl0 hn rfl ?_
            refine b_203_27 _ _ _ ?_ ?_
            · intro z27
              refine b_203_32 _ _ _ ?_ ?_
              · intro z32
                refine b_203_55 (t3 := 165) _ _ _ (by decide +kernel) ?_
                refine b_203_165 _ _ _ (by first | (exact hd_9) | assumption) (by omega) (by exact mL_get (by decide)) ?_
                show Q (.inl (some (.int (b.I 505 75)))) _
                rw [e11]
                exact k0
              · intro z32
                first | (exact absurd z32 (by decide)) | (exact absurd (by decide) z32) | (exact absurd rfl z32) | (exact absurd z32 (of_nn (by omega))) | (exact absurd (of_np (by omega)) z32) | omega
            · intro z27
              first | (exact absurd z27 (by decide)) | (exact absurd (by decide) z27) | (exact absurd rfl z27) | (exact absurd z27 (of_nn (by omega))) | (exact absurd (of_np (by omega)) z27) | omega
          · intro z15
            first | (exact absurd z15 (by decide)) | (exact absurd (by decide) z15) | (exact absurd rfl z15) | (exact absurd z15 (of_nn (by omega))) | (exact absurd (of_np (by omega)) z15) | omega
        · exact absurd hxg g
  · have hxg := fun g => hx (hxo.mp (hx4.mp g))
    refine b_203_0 _ _ _ (by first | (exact hd_9) | assumption) (by omega) (by rw [mL_len]; decide) ?_
    refine hw_W (gw_X (by decide)) ?_
    refine s_in (fun g => ?_) (fun g => ?_)
    · exact absurd g hxg
    · refine b_203_15 _ _ _ ?_ ?_
      · intro z15
        first | (exact absurd z15 (by decide)) | (exact absurd (by decide) z15) | (exact absurd rfl z15) | (exact absurd z15 (of_nn (by omega))) | (exact absurd (of_np (by omega)) z15) | omega
      · intro z15
        refine b_203_18 _ _ _ ?_
        refine b_203_23 _ _ _ (by first | (exact hd_9) | assumption) (by omega) ?_
        refine g_fl1 hn rfl (by decide) ?_
        refine b_203_27 _ _ _ ?_ ?_
        · intro z27
          first | (exact absurd z27 (by decide)) | (exact absurd (by decide) z27) | (exact absurd rfl z27) | (exact absurd z27 (of_nn (by omega))) | (exact absurd (of_np (by omega)) z27) | omega
        · intro z27
          refine b_203_30 _ _ _ ?_
          exact K1 hx _ h.er.er rfl
theorem mx_4r {i j : Nat} (hi : i < 8) (hj : j < 4) : mi_ix (4 * Int32.ofNat i + Int32.ofNat j) 32 (i * 4 + j) := by
  rw [show (4 : Int32) = Int32.ofNat 4 from rfl, of_mul, of_add', Nat.mul_comm]
  exact ix_of (by omega) (by omega)
theorem gq_state (h : gX r n sl b fd oc wr w many ins ev re con) (K1 : ¬ ((∃ i, i ≤ 4 ∧ x = Int32.ofNat i) ∧ (∃ i, i ≤ 7 ∧ y = Int32.ofNat i) ∧ ∃ i, i ≤ 3 ∧ z = Int32.ofNat i) → ∀ b', gX r n sl b' fd oc wr w many ins ev re con → b'.I 505 0 = 1 → Q (.inl (some (.long 0))) (n, sl, hd b' f0)) (K2 : ∀ i j k, i ≤ 4 → j ≤ 7 → k ≤ 3 → x = Int32.ofNat i → y = Int32.ofNat j → z = Int32.ofNat k → ¬ i = 1 → con = none → ∀ b', gX r n sl b' fd oc wr w many ins ev re con → b'.I 505 0 = 2 → Q (.inl (some (.long 0))) (n, sl, hd b' f0)) (K0 : ∀ i j k, i ≤ 4 → j ≤ 7 → k ≤ 3 → x = Int32.ofNat i → y = Int32.ofNat j → z = Int32.ofNat k → (i = 1 ∨ ¬ con = none) → ∀ b', gX r n sl b' fd oc wr w many ins ev re con → b'.I 505 0 = 0 → Q (.inl (some (.long (mx_stv w i j k con)))) (n, sl, hd b' f0)) : mi_W (d + 1) 193 0 (mi_en 4 [.ref 505, .int x, .int y, .int z]) [] (n, sl, hd b f0) Q := by
  have hn := h.2.2.2.2.2.2.2.1.nn.1
  have hC := h.2.2.2.2.2.2.1.i4
  have hW := h.2.2.1
  have o531 := mg_o531 (D := b.D)
  have hx4 := mp_r64 (p := x) (b := 4) (b' := 4) rfl
  have hxo := mp_of (p := x) (m := 4) (by decide)
  have hy4 := mp_r64 (p := y) (b := 7) (b' := 7) rfl
  have hyo := mp_of (p := y) (m := 7) (by decide)
  have hz4 := mp_r64 (p := z) (b := 3) (b' := 3) rfl
  have hzo := mp_of (p := z) (m := 3) (by decide)
  by_cases hx : ∃ i, i ≤ 4 ∧ x = Int32.ofNat i
  · have hxg := hx4.mpr (hxo.mpr hx)
    by_cases hy : ∃ i, i ≤ 7 ∧ y = Int32.ofNat i
    · have hyg := hy4.mpr (hyo.mpr hy)
      by_cases hz : ∃ i, i ≤ 3 ∧ z = Int32.ofNat i
      · have hzg := hz4.mpr (hzo.mpr hz)
        obtain ⟨i, hi, rfl⟩ := hx
        obtain ⟨j, hj, rfl⟩ := hy
        obtain ⟨k, hk, rfl⟩ := hz
        have hix := mx_4r (i := j) (j := k) (by omega) (by omega)
        have hixj := ix_of (w := j) (m := 8) (by omega) (by omega)
        rcases (by omega : i = 0 ∨ i = 1 ∨ i = 2 ∨ i = 3 ∨ i = 4) with rfl | rfl | rfl | rfl | rfl
        · show mi_W (d + 1) 193 0 (mi_en 4 [.ref 505, .int 0, .int (Int32.ofNat j), .int (Int32.ofNat k)]) [] (n, sl, hd b f0) Q
          rcases hC with ⟨hc, e4⟩ | ⟨K, hc, hK, e4⟩
          · have n4 : ¬ (0 : Int32) ≤ b.I 505 4 := by rw [e4]; decide
            refine b_193_0 _ _ _ (by first | (exact hd_9) | assumption) (by omega) (by rw [mL_len]; decide) ?_
            refine hw_W (gw_X (by decide)) ?_
            refine s_in (fun _ => ?_) (fun g => ?_)
            · refine b_193_15 _ _ _ ?_ ?_
              · intro z15
                first | (exact absurd z15 (by decide)) | (exact absurd (by decide) z15) | (exact absurd rfl z15) | (exact absurd z15 (of_nn (by omega))) | (exact absurd (of_np (by omega)) z15) | omega
              · intro z15
                refine b_193_18 _ _ _ ?_
                refine s_in (fun _ => ?_) (fun g => ?_)
                · refine b_193_27 _ _ _ ?_ ?_
                  · intro z27
                    first | (exact absurd z27 (by decide)) | (exact absurd (by decide) z27) | (exact absurd rfl z27) | (exact absurd z27 (of_nn (by omega))) | (exact absurd (of_np (by omega)) z27) | omega
                  · intro z27
                    refine b_193_30 _ _ _ ?_
                    refine s_in (fun _ => ?_) (fun g => ?_)
                    · refine b_193_39 _ _ _ ?_ ?_
                      · intro z39
                        refine b_193_46 _ _ _ ?_
                        refine b_193_47 _ _ _ (by first | (exact hd_9) | assumption) (by omega) ?_
                        refine g_fl0 hn rfl ?_
                        refine b_193_51 _ _ _ ?_ ?_
                        · intro z51
                          first | (exact absurd z51 (by decide)) | (exact absurd (by decide) z51) | (exact absurd rfl z51) | (exact absurd z51 (of_nn (by omega))) | (exact absurd (of_np (by omega)) z51) | omega
                        · intro z51
                          refine b_193_54 _ _ _ ?_ ?_
                          · intro z54
                            first | (exact absurd z54 (by decide)) | (exact absurd (by decide) z54) | (exact absurd rfl z54) | (exact absurd z54 (of_nn (by omega))) | (exact absurd (of_np (by omega)) z54) | omega
                          · intro z54
                            refine b_193_60 _ _ _ (by first | (exact hd_9) | assumption) (by omega) (by exact mL_get (by decide)) ?_ ?_
                            · intro z60
                              exact absurd z60 n4
                            · intro z60
                              refine b_193_67 _ _ _ ?_
                              refine b_193_72 _ _ _ (by first | (exact hd_9) | assumption) (by omega) ?_
                              refine g_fl1 hn rfl (by decide) ?_
                              refine b_193_76 _ _ _ ?_ ?_
                              · intro z76
                                first | (exact absurd z76 (by decide)) | (exact absurd (by decide) z76) | (exact absurd rfl z76) | (exact absurd z76 (of_nn (by omega))) | (exact absurd (of_np (by omega)) z76) | omega
                              · intro z76
                                refine b_193_79 _ _ _ ?_
                                exact K2 0 j k (by decide) hj hk rfl rfl rfl (by decide) hc _ h.er.er rfl
                      · intro z39
                        first | (exact absurd z39 (by decide)) | (exact absurd (by decide) z39) | (exact absurd rfl z39) | (exact absurd z39 (of_nn (by omega))) | (exact absurd (of_np (by omega)) z39) | omega
                    · exact absurd hzg g
                · exact absurd hyg g
            · exact absurd hxg g
          · have n4 : (0 : Int32) ≤ b.I 505 4 := by rw [e4]; decide
            subst hc
            have k0 := K0 0 j k (by decide) hj hk rfl rfl rfl (Or.inr (fun h => by cases h)) _ h.er rfl
            obtain ⟨-, -, hS, -⟩ := hK
            refine b_193_0 _ _ _ (by first | (exact hd_9) | assumption) (by omega) (by rw [mL_len]; decide) ?_
            refine hw_W (gw_X (by decide)) ?_
            refine s_in (fun _ => ?_) (fun g => ?_)
            · refine b_193_15 _ _ _ ?_ ?_
              · intro z15
                first | (exact absurd z15 (by decide)) | (exact absurd (by decide) z15) | (exact absurd rfl z15) | (exact absurd z15 (of_nn (by omega))) | (exact absurd (of_np (by omega)) z15) | omega
              · intro z15
                refine b_193_18 _ _ _ ?_
                refine s_in (fun _ => ?_) (fun g => ?_)
                · refine b_193_27 _ _ _ ?_ ?_
                  · intro z27
                    first | (exact absurd z27 (by decide)) | (exact absurd (by decide) z27) | (exact absurd rfl z27) | (exact absurd z27 (of_nn (by omega))) | (exact absurd (of_np (by omega)) z27) | omega
                  · intro z27
                    refine b_193_30 _ _ _ ?_
                    refine s_in (fun _ => ?_) (fun g => ?_)
                    · refine b_193_39 _ _ _ ?_ ?_
                      · intro z39
                        refine b_193_46 _ _ _ ?_
                        refine b_193_47 _ _ _ (by first | (exact hd_9) | assumption) (by omega) ?_
                        refine g_fl0 hn rfl ?_
                        refine b_193_51 _ _ _ ?_ ?_
                        · intro z51
                          first | (exact absurd z51 (by decide)) | (exact absurd (by decide) z51) | (exact absurd rfl z51) | (exact absurd z51 (of_nn (by omega))) | (exact absurd (of_np (by omega)) z51) | omega
                        · intro z51
                          refine b_193_54 _ _ _ ?_ ?_
                          · intro z54
                            first | (exact absurd z54 (by decide)) | (exact absurd (by decide) z54) | (exact absurd rfl z54) | (exact absurd z54 (of_nn (by omega))) | (exact absurd (of_np (by omega)) z54) | omega
                          · intro z54
                            refine b_193_60 _ _ _ (by first | (exact hd_9) | assumption) (by omega) (by exact mL_get (by decide)) ?_ ?_
                            · intro z60
                              refine b_193_71 _ _ _ ?_
                              refine b_193_72 _ _ _ (by first | (exact hd_9) | assumption) (by omega) ?_
                              refine g_fl0 hn rfl ?_
                              refine b_193_76 _ _ _ ?_ ?_
                              · intro z76
                                refine b_193_81 (t5 := 112) _ _ _ (by decide +kernel) ?_
                                refine b_193_112 _ _ _ _ _ _ (by first | (exact hd_9) | assumption) (by omega) (by exact mL_get (by decide)) (by first | (exact hd_8 (by assumption)) | assumption) (by omega) (by exact rfl) (by first | (exact hd_J (by omega) rfl) | (exact hd_L1 (by assumption)) | (exact hd_L2 (by assumption)) | (exact hd_L3 (by assumption)) | assumption) (by omega) (by first | assumption | (exact ix_of (by omega) (by omega)) | (exact ⟨by decide, rfl, by decide⟩)) ?_
                                show Q (.inl (some (.long (b.L 1 531 (j * 4 + k))))) _
                                rw [hS.2.2.2.1 _ (show j * 4 + k < 32 by omega)]
                                exact k0
                              · intro z76
                                first | (exact absurd z76 (by decide)) | (exact absurd (by decide) z76) | (exact absurd rfl z76) | (exact absurd z76 (of_nn (by omega))) | (exact absurd (of_np (by omega)) z76) | omega
                            · intro z60
                              exact absurd n4 z60
                      · intro z39
                        first | (exact absurd z39 (by decide)) | (exact absurd (by decide) z39) | (exact absurd rfl z39) | (exact absurd z39 (of_nn (by omega))) | (exact absurd (of_np (by omega)) z39) | omega
                    · exact absurd hzg g
                · exact absurd hyg g
            · exact absurd hxg g
        · show mi_W (d + 1) 193 0 (mi_en 4 [.ref 505, .int 1, .int (Int32.ofNat j), .int (Int32.ofNat k)]) [] (n, sl, hd b f0) Q
          refine b_193_0 _ _ _ (by first | (exact hd_9) | assumption) (by omega) (by rw [mL_len]; decide) ?_
          refine hw_W (gw_X (by decide)) ?_
          refine s_in (fun _ => ?_) (fun g => ?_)
          · refine b_193_15 _ _ _ ?_ ?_
            · intro z15
              first | (exact absurd z15 (by decide)) | (exact absurd (by decide) z15) | (exact absurd rfl z15) | (exact absurd z15 (of_nn (by omega))) | (exact absurd (of_np (by omega)) z15) | omega
            · intro z15
              refine b_193_18 _ _ _ ?_
              refine s_in (fun _ => ?_) (fun g => ?_)
              · refine b_193_27 _ _ _ ?_ ?_
                · intro z27
                  first | (exact absurd z27 (by decide)) | (exact absurd (by decide) z27) | (exact absurd rfl z27) | (exact absurd z27 (of_nn (by omega))) | (exact absurd (of_np (by omega)) z27) | omega
                · intro z27
                  refine b_193_30 _ _ _ ?_
                  refine s_in (fun _ => ?_) (fun g => ?_)
                  · refine b_193_39 _ _ _ ?_ ?_
                    · intro z39
                      refine b_193_46 _ _ _ ?_
                      refine b_193_47 _ _ _ (by first | (exact hd_9) | assumption) (by omega) ?_
                      refine g_fl0 hn rfl ?_
                      refine b_193_51 _ _ _ ?_ ?_
                      · intro z51
                        first | (exact absurd z51 (by decide)) | (exact absurd (by decide) z51) | (exact absurd rfl z51) | (exact absurd z51 (of_nn (by omega))) | (exact absurd (of_np (by omega)) z51) | omega
                      · intro z51
                        refine b_193_54 _ _ _ ?_ ?_
                        · intro z54
                          refine b_193_71 _ _ _ ?_
                          refine b_193_72 _ _ _ (by first | (exact hd_9) | assumption) (by omega) ?_
                          refine g_fl0 hn rfl ?_
                          refine b_193_76 _ _ _ ?_ ?_
                          · intro z76
                            refine b_193_81 (t5 := 126) _ _ _ (by decide +kernel) ?_
                            refine b_193_126 _ _ _ _ _ _ (by first | (exact hd_9) | assumption) (by omega) (by exact mL_get (by decide)) (by first | (exact hd_J (by omega) rfl) | (exact hd_L1 (by assumption)) | (exact hd_L2 (by assumption)) | (exact hd_L3 (by assumption)) | assumption) (by omega) (by first | assumption | (exact ix_of (by omega) (by omega)) | (exact ⟨by decide, rfl, by decide⟩)) ?_
                            show Q (.inl (some (.long (b.J 550 (j * 4 + k))))) _
                            rw [hW _ (by omega)]
                            have := K0 1 j k (by decide) hj hk rfl rfl rfl (Or.inl rfl) _ h.er rfl
                            cases con <;> exact this
                          · intro z76
                            first | (exact absurd z76 (by decide)) | (exact absurd (by decide) z76) | (exact absurd rfl z76) | (exact absurd z76 (of_nn (by omega))) | (exact absurd (of_np (by omega)) z76) | omega
                        · intro z54
                          first | (exact absurd z54 (by decide)) | (exact absurd (by decide) z54) | (exact absurd rfl z54) | (exact absurd z54 (of_nn (by omega))) | (exact absurd (of_np (by omega)) z54) | omega
                    · intro z39
                      first | (exact absurd z39 (by decide)) | (exact absurd (by decide) z39) | (exact absurd rfl z39) | (exact absurd z39 (of_nn (by omega))) | (exact absurd (of_np (by omega)) z39) | omega
                  · exact absurd hzg g
              · exact absurd hyg g
          · exact absurd hxg g
        · show mi_W (d + 1) 193 0 (mi_en 4 [.ref 505, .int 2, .int (Int32.ofNat j), .int (Int32.ofNat k)]) [] (n, sl, hd b f0) Q
          rcases hC with ⟨hc, e4⟩ | ⟨K, hc, hK, e4⟩
          · have n4 : ¬ (0 : Int32) ≤ b.I 505 4 := by rw [e4]; decide
            refine b_193_0 _ _ _ (by first | (exact hd_9) | assumption) (by omega) (by rw [mL_len]; decide) ?_
            refine hw_W (gw_X (by decide)) ?_
            refine s_in (fun _ => ?_) (fun g => ?_)
            · refine b_193_15 _ _ _ ?_ ?_
              · intro z15
                first | (exact absurd z15 (by decide)) | (exact absurd (by decide) z15) | (exact absurd rfl z15) | (exact absurd z15 (of_nn (by omega))) | (exact absurd (of_np (by omega)) z15) | omega
              · intro z15
                refine b_193_18 _ _ _ ?_
                refine s_in (fun _ => ?_) (fun g => ?_)
                · refine b_193_27 _ _ _ ?_ ?_
                  · intro z27
                    first | (exact absurd z27 (by decide)) | (exact absurd (by decide) z27) | (exact absurd rfl z27) | (exact absurd z27 (of_nn (by omega))) | (exact absurd (of_np (by omega)) z27) | omega
                  · intro z27
                    refine b_193_30 _ _ _ ?_
                    refine s_in (fun _ => ?_) (fun g => ?_)
                    · refine b_193_39 _ _ _ ?_ ?_
                      · intro z39
                        refine b_193_46 _ _ _ ?_
                        refine b_193_47 _ _ _ (by first | (exact hd_9) | assumption) (by omega) ?_
                        refine g_fl0 hn rfl ?_
                        refine b_193_51 _ _ _ ?_ ?_
                        · intro z51
                          first | (exact absurd z51 (by decide)) | (exact absurd (by decide) z51) | (exact absurd rfl z51) | (exact absurd z51 (of_nn (by omega))) | (exact absurd (of_np (by omega)) z51) | omega
                        · intro z51
                          refine b_193_54 _ _ _ ?_ ?_
                          · intro z54
                            first | (exact absurd z54 (by decide)) | (exact absurd (by decide) z54) | (exact absurd rfl z54) | (exact absurd z54 (of_nn (by omega))) | (exact absurd (of_np (by omega)) z54) | omega
                          · intro z54
                            refine b_193_60 _ _ _ (by first | (exact hd_9) | assumption) (by omega) (by exact mL_get (by decide)) ?_ ?_
                            · intro z60
                              exact absurd z60 n4
                            · intro z60
                              refine b_193_67 _ _ _ ?_
                              refine b_193_72 _ _ _ (by first | (exact hd_9) | assumption) (by omega) ?_
                              refine g_fl1 hn rfl (by decide) ?_
                              refine b_193_76 _ _ _ ?_ ?_
                              · intro z76
                                first | (exact absurd z76 (by decide)) | (exact absurd (by decide) z76) | (exact absurd rfl z76) | (exact absurd z76 (of_nn (by omega))) | (exact absurd (of_np (by omega)) z76) | omega
                              · intro z76
                                refine b_193_79 _ _ _ ?_
                                exact K2 2 j k (by decide) hj hk rfl rfl rfl (by decide) hc _ h.er.er rfl
                      · intro z39
                        first | (exact absurd z39 (by decide)) | (exact absurd (by decide) z39) | (exact absurd rfl z39) | (exact absurd z39 (of_nn (by omega))) | (exact absurd (of_np (by omega)) z39) | omega
                    · exact absurd hzg g
                · exact absurd hyg g
            · exact absurd hxg g
          · have n4 : (0 : Int32) ≤ b.I 505 4 := by rw [e4]; decide
            subst hc
            have k0 := K0 2 j k (by decide) hj hk rfl rfl rfl (Or.inr (fun h => by cases h)) _ h.er rfl
            obtain ⟨-, -, hS, -⟩ := hK
            refine b_193_0 _ _ _ (by first | (exact hd_9) | assumption) (by omega) (by rw [mL_len]; decide) ?_
            refine hw_W (gw_X (by decide)) ?_
            refine s_in (fun _ => ?_) (fun g => ?_)
            · refine b_193_15 _ _ _ ?_ ?_
              · intro z15
                first | (exact absurd z15 (by decide)) | (exact absurd (by decide) z15) | (exact absurd rfl z15) | (exact absurd z15 (of_nn (by omega))) | (exact absurd (of_np (by omega)) z15) | omega
              · intro z15
                refine b_193_18 _ _ _ ?_
                refine s_in (fun _ => ?_) (fun g => ?_)
                · refine b_193_27 _ _ _ ?_ ?_
                  · intro z27
                    first | (exact absurd z27 (by decide)) | (exact absurd (by decide) z27) | (exact absurd rfl z27) | (exact absurd z27 (of_nn (by omega))) | (exact absurd (of_np (by omega)) z27) | omega
                  · intro z27
                    refine b_193_30 _ _ _ ?_
                    refine s_in (fun _ => ?_) (fun g => ?_)
                    · refine b_193_39 _ _ _ ?_ ?_
                      · intro z39
                        refine b_193_46 _ _ _ ?_
                        refine b_193_47 _ _ _ (by first | (exact hd_9) | assumption) (by omega) ?_
                        refine g_fl0 hn rfl ?_
                        refine b_193_51 _ _ _ ?_ ?_
                        · intro z51
                          first | (exact absurd z51 (by decide)) | (exact absurd (by decide) z51) | (exact absurd rfl z51) | (exact absurd z51 (of_nn (by omega))) | (exact absurd (of_np (by omega)) z51) | omega
                        · intro z51
                          refine b_193_54 _ _ _ ?_ ?_
                          · intro z54
                            first | (exact absurd z54 (by decide)) | (exact absurd (by decide) z54) | (exact absurd rfl z54) | (exact absurd z54 (of_nn (by omega))) | (exact absurd (of_np (by omega)) z54) | omega
                          · intro z54
                            refine b_193_60 _ _ _ (by first | (exact hd_9) | assumption) (by omega) (by exact mL_get (by decide)) ?_ ?_
                            · intro z60
                              refine b_193_71 _ _ _ ?_
                              refine b_193_72 _ _ _ (by first | (exact hd_9) | assumption) (by omega) ?_
                              refine g_fl0 hn rfl ?_
                              refine b_193_76 _ _ _ ?_ ?_
                              · intro z76
                                refine b_193_81 (t5 := 137) _ _ _ (by decide +kernel) ?_
                                refine b_193_137 _ _ _ _ _ _ (by first | (exact hd_9) | assumption) (by omega) (by exact mL_get (by decide)) (by first | (exact hd_8 (by assumption)) | assumption) (by omega) (by exact rfl) (by first | (exact hd_P4 (by assumption)) | (exact hd_P5 (by assumption)) | assumption) (by omega) (by first | assumption | (exact ix_of (by omega) (by omega)) | (exact ⟨by decide, rfl, by decide⟩)) ?_ ?_
                                · intro z137
                                  refine b_193_161 _ _ _ ?_
                                  refine b_193_162 _ _ _ ?_
                                  have ke : (K.2.1.ch j).getD 0 = if b.P 4 531 j = 0 then 0 else b.L 2 531 j := by
                                    rw [(hS.2.2.2.2.1 j (by omega)).2]
                                    split <;> rfl
                                  have k1 : Q (.inl (some (.long ((K.2.1.ch j).getD 0)))) (n, sl, hd (b.sX 0 0) f0) := k0
                                  rw [ke] at k1
                                  first | (rw [if_pos (show b.P 4 531 j = 0 from z137)] at k1; exact k1) | (rw [if_neg (show ¬ b.P 4 531 j = 0 from z137)] at k1; exact k1)
                                · intro z137
                                  refine b_193_149 _ _ _ _ _ _ (by first | (exact hd_9) | assumption) (by omega) (by exact mL_get (by decide)) (by first | (exact hd_8 (by assumption)) | assumption) (by omega) (by exact rfl) (by first | (exact hd_J (by omega) rfl) | (exact hd_L1 (by assumption)) | (exact hd_L2 (by assumption)) | (exact hd_L3 (by assumption)) | assumption) (by omega) (by first | assumption | (exact ix_of (by omega) (by omega)) | (exact ⟨by decide, rfl, by decide⟩)) ?_
                                  refine b_193_162 _ _ _ ?_
                                  have ke : (K.2.1.ch j).getD 0 = if b.P 4 531 j = 0 then 0 else b.L 2 531 j := by
                                    rw [(hS.2.2.2.2.1 j (by omega)).2]
                                    split <;> rfl
                                  have k1 : Q (.inl (some (.long ((K.2.1.ch j).getD 0)))) (n, sl, hd (b.sX 0 0) f0) := k0
                                  rw [ke] at k1
                                  first | (rw [if_pos (show b.P 4 531 j = 0 from z137)] at k1; exact k1) | (rw [if_neg (show ¬ b.P 4 531 j = 0 from z137)] at k1; exact k1)
                              · intro z76
                                first | (exact absurd z76 (by decide)) | (exact absurd (by decide) z76) | (exact absurd rfl z76) | (exact absurd z76 (of_nn (by omega))) | (exact absurd (of_np (by omega)) z76) | omega
                            · intro z60
                              exact absurd n4 z60
                      · intro z39
                        first | (exact absurd z39 (by decide)) | (exact absurd (by decide) z39) | (exact absurd rfl z39) | (exact absurd z39 (of_nn (by omega))) | (exact absurd (of_np (by omega)) z39) | omega
                    · exact absurd hzg g
                · exact absurd hyg g
            · exact absurd hxg g
        · show mi_W (d + 1) 193 0 (mi_en 4 [.ref 505, .int 3, .int (Int32.ofNat j), .int (Int32.ofNat k)]) [] (n, sl, hd b f0) Q
          rcases hC with ⟨hc, e4⟩ | ⟨K, hc, hK, e4⟩
          · have n4 : ¬ (0 : Int32) ≤ b.I 505 4 := by rw [e4]; decide
            refine b_193_0 _ _ _ (by first | (exact hd_9) | assumption) (by omega) (by rw [mL_len]; decide) ?_
            refine hw_W (gw_X (by decide)) ?_
            refine s_in (fun _ => ?_) (fun g => ?_)
            · refine b_193_15 _ _ _ ?_ ?_
              · intro z15
                first | (exact absurd z15 (by decide)) | (exact absurd (by decide) z15) | (exact absurd rfl z15) | (exact absurd z15 (of_nn (by omega))) | (exact absurd (of_np (by omega)) z15) | omega
              · intro z15
                refine b_193_18 _ _ _ ?_
                refine s_in (fun _ => ?_) (fun g => ?_)
                · refine b_193_27 _ _ _ ?_ ?_
                  · intro z27
                    first | (exact absurd z27 (by decide)) | (exact absurd (by decide) z27) | (exact absurd rfl z27) | (exact absurd z27 (of_nn (by omega))) | (exact absurd (of_np (by omega)) z27) | omega
                  · intro z27
                    refine b_193_30 _ _ _ ?_
                    refine s_in (fun _ => ?_) (fun g => ?_)
                    · refine b_193_39 _ _ _ ?_ ?_
                      · intro z39
                        refine b_193_46 _ _ _ ?_
                        refine b_193_47 _ _ _ (by first | (exact hd_9) | assumption) (by omega) ?_
                        refine g_fl0 hn rfl ?_
                        refine b_193_51 _ _ _ ?_ ?_
                        · intro z51
                          first | (exact absurd z51 (by decide)) | (exact absurd (by decide) z51) | (exact absurd rfl z51) | (exact absurd z51 (of_nn (by omega))) | (exact absurd (of_np (by omega)) z51) | omega
                        · intro z51
                          refine b_193_54 _ _ _ ?_ ?_
                          · intro z54
                            first | (exact absurd z54 (by decide)) | (exact absurd (by decide) z54) | (exact absurd rfl z54) | (exact absurd z54 (of_nn (by omega))) | (exact absurd (of_np (by omega)) z54) | omega
                          · intro z54
                            refine b_193_60 _ _ _ (by first | (exact hd_9) | assumption) (by omega) (by exact mL_get (by decide)) ?_ ?_
                            · intro z60
                              exact absurd z60 n4
                            · intro z60
                              refine b_193_67 _ _ _ ?_
                              refine b_193_72 _ _ _ (by first | (exact hd_9) | assumption) (by omega) ?_
                              refine g_fl1 hn rfl (by decide) ?_
                              refine b_193_76 _ _ _ ?_ ?_
                              · intro z76
                                first | (exact absurd z76 (by decide)) | (exact absurd (by decide) z76) | (exact absurd rfl z76) | (exact absurd z76 (of_nn (by omega))) | (exact absurd (of_np (by omega)) z76) | omega
                              · intro z76
                                refine b_193_79 _ _ _ ?_
                                exact K2 3 j k (by decide) hj hk rfl rfl rfl (by decide) hc _ h.er.er rfl
                      · intro z39
                        first | (exact absurd z39 (by decide)) | (exact absurd (by decide) z39) | (exact absurd rfl z39) | (exact absurd z39 (of_nn (by omega))) | (exact absurd (of_np (by omega)) z39) | omega
                    · exact absurd hzg g
                · exact absurd hyg g
            · exact absurd hxg g
          · have n4 : (0 : Int32) ≤ b.I 505 4 := by rw [e4]; decide
            subst hc
            have k0 := K0 3 j k (by decide) hj hk rfl rfl rfl (Or.inr (fun h => by cases h)) _ h.er rfl
            obtain ⟨-, -, hS, -⟩ := hK
            refine b_193_0 _ _ _ (by first | (exact hd_9) | assumption) (by omega) (by rw [mL_len]; decide) ?_
            refine hw_W (gw_X (by decide)) ?_
            refine s_in (fun _ => ?_) (fun g => ?_)
            · refine b_193_15 _ _ _ ?_ ?_
              · intro z15
                first | (exact absurd z15 (by decide)) | (exact absurd (by decide) z15) | (exact absurd rfl z15) | (exact absurd z15 (of_nn (by omega))) | (exact absurd (of_np (by omega)) z15) | omega
              · intro z15
                refine b_193_18 _ _ _ ?_
                refine s_in (fun _ => ?_) (fun g => ?_)
                · refine b_193_27 _ _ _ ?_ ?_
                  · intro z27
                    first | (exact absurd z27 (by decide)) | (exact absurd (by decide) z27) | (exact absurd rfl z27) | (exact absurd z27 (of_nn (by omega))) | (exact absurd (of_np (by omega)) z27) | omega
                  · intro z27
                    refine b_193_30 _ _ _ ?_
                    refine s_in (fun _ => ?_) (fun g => ?_)
                    · refine b_193_39 _ _ _ ?_ ?_
                      · intro z39
                        refine b_193_46 _ _ _ ?_
                        refine b_193_47 _ _ _ (by first | (exact hd_9) | assumption) (by omega) ?_
                        refine g_fl0 hn rfl ?_
                        refine b_193_51 _ _ _ ?_ ?_
                        · intro z51
                          first | (exact absurd z51 (by decide)) | (exact absurd (by decide) z51) | (exact absurd rfl z51) | (exact absurd z51 (of_nn (by omega))) | (exact absurd (of_np (by omega)) z51) | omega
                        · intro z51
                          refine b_193_54 _ _ _ ?_ ?_
                          · intro z54
                            first | (exact absurd z54 (by decide)) | (exact absurd (by decide) z54) | (exact absurd rfl z54) | (exact absurd z54 (of_nn (by omega))) | (exact absurd (of_np (by omega)) z54) | omega
                          · intro z54
                            refine b_193_60 _ _ _ (by first | (exact hd_9) | assumption) (by omega) (by exact mL_get (by decide)) ?_ ?_
                            · intro z60
                              refine b_193_71 _ _ _ ?_
                              refine b_193_72 _ _ _ (by first | (exact hd_9) | assumption) (by omega) ?_
                              refine g_fl0 hn rfl ?_
                              refine b_193_76 _ _ _ ?_ ?_
                              · intro z76
                                refine b_193_81 (t5 := 163) _ _ _ (by decide +kernel) ?_
                                refine b_193_163 _ _ _ _ _ _ (by first | (exact hd_9) | assumption) (by omega) (by exact mL_get (by decide)) (by first | (exact hd_8 (by assumption)) | assumption) (by omega) (by exact rfl) (by first | (exact hd_P4 (by assumption)) | (exact hd_P5 (by assumption)) | assumption) (by omega) (by first | assumption | (exact ix_of (by omega) (by omega)) | (exact ⟨by decide, rfl, by decide⟩)) ?_ ?_
                                · intro z163
                                  refine b_193_187 _ _ _ ?_
                                  refine b_193_188 _ _ _ ?_
                                  have ke : (K.2.1.us j).getD 0 = if b.P 5 531 j = 0 then 0 else b.L 3 531 j := by
                                    rw [(hS.2.2.2.2.2 j (by omega)).2]
                                    split <;> rfl
                                  have k1 : Q (.inl (some (.long ((K.2.1.us j).getD 0)))) (n, sl, hd (b.sX 0 0) f0) := k0
                                  rw [ke] at k1
                                  first | (rw [if_pos (show b.P 5 531 j = 0 from z163)] at k1; exact k1) | (rw [if_neg (show ¬ b.P 5 531 j = 0 from z163)] at k1; exact k1)
                                · intro z163
                                  refine b_193_175 _ _ _ _ _ _ (by first | (exact hd_9) | assumption) (by omega) (by exact mL_get (by decide)) (by first | (exact hd_8 (by assumption)) | assumption) (by omega) (by exact rfl) (by first | (exact hd_J (by omega) rfl) | (exact hd_L1 (by assumption)) | (exact hd_L2 (by assumption)) | (exact hd_L3 (by assumption)) | assumption) (by omega) (by first | assumption | (exact ix_of (by omega) (by omega)) | (exact ⟨by decide, rfl, by decide⟩)) ?_
                                  refine b_193_188 _ _ _ ?_
                                  have ke : (K.2.1.us j).getD 0 = if b.P 5 531 j = 0 then 0 else b.L 3 531 j := by
                                    rw [(hS.2.2.2.2.2 j (by omega)).2]
                                    split <;> rfl
                                  have k1 : Q (.inl (some (.long ((K.2.1.us j).getD 0)))) (n, sl, hd (b.sX 0 0) f0) := k0
                                  rw [ke] at k1
                                  first | (rw [if_pos (show b.P 5 531 j = 0 from z163)] at k1; exact k1) | (rw [if_neg (show ¬ b.P 5 531 j = 0 from z163)] at k1; exact k1)
                              · intro z76
                                first | (exact absurd z76 (by decide)) | (exact absurd (by decide) z76) | (exact absurd rfl z76) | (exact absurd z76 (of_nn (by omega))) | (exact absurd (of_np (by omega)) z76) | omega
                            · intro z60
                              exact absurd n4 z60
                      · intro z39
                        first | (exact absurd z39 (by decide)) | (exact absurd (by decide) z39) | (exact absurd rfl z39) | (exact absurd z39 (of_nn (by omega))) | (exact absurd (of_np (by omega)) z39) | omega
                    · exact absurd hzg g
                · exact absurd hyg g
            · exact absurd hxg g
        · show mi_W (d + 1) 193 0 (mi_en 4 [.ref 505, .int 4, .int (Int32.ofNat j), .int (Int32.ofNat k)]) [] (n, sl, hd b f0) Q
          rcases hC with ⟨hc, e4⟩ | ⟨K, hc, hK, e4⟩
          · have n4 : ¬ (0 : Int32) ≤ b.I 505 4 := by rw [e4]; decide
            refine b_193_0 _ _ _ (by first | (exact hd_9) | assumption) (by omega) (by rw [mL_len]; decide) ?_
            refine hw_W (gw_X (by decide)) ?_
            refine s_in (fun _ => ?_) (fun g => ?_)
            · refine b_193_15 _ _ _ ?_ ?_
              · intro z15
                first | (exact absurd z15 (by decide)) | (exact absurd (by decide) z15) | (exact absurd rfl z15) | (exact absurd z15 (of_nn (by omega))) | (exact absurd (of_np (by omega)) z15) | omega
              · intro z15
                refine b_193_18 _ _ _ ?_
                refine s_in (fun _ => ?_) (fun g => ?_)
                · refine b_193_27 _ _ _ ?_ ?_
                  · intro z27
                    first | (exact absurd z27 (by decide)) | (exact absurd (by decide) z27) | (exact absurd rfl z27) | (exact absurd z27 (of_nn (by omega))) | (exact absurd (of_np (by omega)) z27) | omega
                  · intro z27
                    refine b_193_30 _ _ _ ?_
                    refine s_in (fun _ => ?_) (fun g => ?_)
                    · refine b_193_39 _ _ _ ?_ ?_
                      · intro z39
                        refine b_193_46 _ _ _ ?_
                        refine b_193_47 _ _ _ (by first | (exact hd_9) | assumption) (by omega) ?_
                        refine g_fl0 hn rfl ?_
                        refine b_193_51 _ _ _ ?_ ?_
                        · intro z51
                          first | (exact absurd z51 (by decide)) | (exact absurd (by decide) z51) | (exact absurd rfl z51) | (exact absurd z51 (of_nn (by omega))) | (exact absurd (of_np (by omega)) z51) | omega
                        · intro z51
                          refine b_193_54 _ _ _ ?_ ?_
                          · intro z54
                            first | (exact absurd z54 (by decide)) | (exact absurd (by decide) z54) | (exact absurd rfl z54) | (exact absurd z54 (of_nn (by omega))) | (exact absurd (of_np (by omega)) z54) | omega
                          · intro z54
                            refine b_193_60 _ _ _ (by first | (exact hd_9) | assumption) (by omega) (by exact mL_get (by decide)) ?_ ?_
                            · intro z60
                              exact absurd z60 n4
                            · intro z60
                              refine b_193_67 _ _ _ ?_
                              refine b_193_72 _ _ _ (by first | (exact hd_9) | assumption) (by omega) ?_
                              refine g_fl1 hn rfl (by decide) ?_
                              refine b_193_76 _ _ _ ?_ ?_
                              · intro z76
                                first | (exact absurd z76 (by decide)) | (exact absurd (by decide) z76) | (exact absurd rfl z76) | (exact absurd z76 (of_nn (by omega))) | (exact absurd (of_np (by omega)) z76) | omega
                              · intro z76
                                refine b_193_79 _ _ _ ?_
                                exact K2 4 j k (by decide) hj hk rfl rfl rfl (by decide) hc _ h.er.er rfl
                      · intro z39
                        first | (exact absurd z39 (by decide)) | (exact absurd (by decide) z39) | (exact absurd rfl z39) | (exact absurd z39 (of_nn (by omega))) | (exact absurd (of_np (by omega)) z39) | omega
                    · exact absurd hzg g
                · exact absurd hyg g
            · exact absurd hxg g
          · have n4 : (0 : Int32) ≤ b.I 505 4 := by rw [e4]; decide
            subst hc
            have k0 := K0 4 j k (by decide) hj hk rfl rfl rfl (Or.inr (fun h => by cases h)) _ h.er rfl
            obtain ⟨-, -, hS, -⟩ := hK
            refine b_193_0 _ _ _ (by first | (exact hd_9) | assumption) (by omega) (by rw [mL_len]; decide) ?_
            refine hw_W (gw_X (by decide)) ?_
            refine s_in (fun _ => ?_) (fun g => ?_)
            · refine b_193_15 _ _ _ ?_ ?_
              · intro z15
                first | (exact absurd z15 (by decide)) | (exact absurd (by decide) z15) | (exact absurd rfl z15) | (exact absurd z15 (of_nn (by omega))) | (exact absurd (of_np (by omega)) z15) | omega
              · intro z15
                refine b_193_18 _ _ _ ?_
                refine s_in (fun _ => ?_) (fun g => ?_)
                · refine b_193_27 _ _ _ ?_ ?_
                  · intro z27
                    first | (exact absurd z27 (by decide)) | (exact absurd (by decide) z27) | (exact absurd rfl z27) | (exact absurd z27 (of_nn (by omega))) | (exact absurd (of_np (by omega)) z27) | omega
                  · intro z27
                    refine b_193_30 _ _ _ ?_
                    refine s_in (fun _ => ?_) (fun g => ?_)
                    · refine b_193_39 _ _ _ ?_ ?_
                      · intro z39
                        refine b_193_46 _ _ _ ?_
                        refine b_193_47 _ _ _ (by first | (exact hd_9) | assumption) (by omega) ?_
                        refine g_fl0 hn rfl ?_
                        refine b_193_51 _ _ _ ?_ ?_
                        · intro z51
                          first | (exact absurd z51 (by decide)) | (exact absurd (by decide) z51) | (exact absurd rfl z51) | (exact absurd z51 (of_nn (by omega))) | (exact absurd (of_np (by omega)) z51) | omega
                        · intro z51
                          refine b_193_54 _ _ _ ?_ ?_
                          · intro z54
                            first | (exact absurd z54 (by decide)) | (exact absurd (by decide) z54) | (exact absurd rfl z54) | (exact absurd z54 (of_nn (by omega))) | (exact absurd (of_np (by omega)) z54) | omega
                          · intro z54
                            refine b_193_60 _ _ _ (by first | (exact hd_9) | assumption) (by omega) (by exact mL_get (by decide)) ?_ ?_
                            · intro z60
                              refine b_193_71 _ _ _ ?_
                              refine b_193_72 _ _ _ (by first | (exact hd_9) | assumption) (by omega) ?_
                              refine g_fl0 hn rfl ?_
                              refine b_193_76 _ _ _ ?_ ?_
                              · intro z76
                                refine b_193_81 (t5 := 189) _ _ _ (by decide +kernel) ?_
                                refine b_193_189 _ _ _ (by first | (exact hd_9) | assumption) (by omega) (by exact mL_get (by decide)) (by first | (exact hd_8 (by assumption)) | assumption) (by omega) (by exact rfl) ?_
                                show Q (.inl (some (.long (b.L 0 531 0)))) _
                                rw [hS.2.2.1]
                                exact k0
                              · intro z76
                                first | (exact absurd z76 (by decide)) | (exact absurd (by decide) z76) | (exact absurd rfl z76) | (exact absurd z76 (of_nn (by omega))) | (exact absurd (of_np (by omega)) z76) | omega
                            · intro z60
                              exact absurd n4 z60
                      · intro z39
                        first | (exact absurd z39 (by decide)) | (exact absurd (by decide) z39) | (exact absurd rfl z39) | (exact absurd z39 (of_nn (by omega))) | (exact absurd (of_np (by omega)) z39) | omega
                    · exact absurd hzg g
                · exact absurd hyg g
            · exact absurd hxg g
      · have hzg := fun g => hz (hzo.mp (hz4.mp g))
        refine b_193_0 _ _ _ (by first | (exact hd_9) | assumption) (by omega) (by rw [mL_len]; decide) ?_
        refine hw_W (gw_X (by decide)) ?_
        refine s_in (fun _ => ?_) (fun g => ?_)
        · refine b_193_15 _ _ _ ?_ ?_
          · intro z15
            first | (exact absurd z15 (by decide)) | (exact absurd (by decide) z15) | (exact absurd rfl z15) | (exact absurd z15 (of_nn (by omega))) | (exact absurd (of_np (by omega)) z15) | omega
          · intro z15
            refine b_193_18 _ _ _ ?_
            refine s_in (fun _ => ?_) (fun g => ?_)
            · refine b_193_27 _ _ _ ?_ ?_
              · intro z27
                first | (exact absurd z27 (by decide)) | (exact absurd (by decide) z27) | (exact absurd rfl z27) | (exact absurd z27 (of_nn (by omega))) | (exact absurd (of_np (by omega)) z27) | omega
              · intro z27
                refine b_193_30 _ _ _ ?_
                refine s_in (fun g => ?_) (fun g => ?_)
                · exact absurd g hzg
                · refine b_193_39 _ _ _ ?_ ?_
                  · intro z39
                    first | (exact absurd z39 (by decide)) | (exact absurd (by decide) z39) | (exact absurd rfl z39) | (exact absurd z39 (of_nn (by omega))) | (exact absurd (of_np (by omega)) z39) | omega
                  · intro z39
                    refine b_193_42 _ _ _ ?_
                    refine b_193_47 _ _ _ (by first | (exact hd_9) | assumption) (by omega) ?_
                    refine g_fl1 hn rfl (by decide) ?_
                    refine b_193_51 _ _ _ ?_ ?_
                    · intro z51
                      refine b_193_79 _ _ _ ?_
                      exact K1 (fun g => hz g.2.2) _ h.er.er rfl
                    · intro z51
                      first | (exact absurd z51 (by decide)) | (exact absurd (by decide) z51) | (exact absurd rfl z51) | (exact absurd z51 (of_nn (by omega))) | (exact absurd (of_np (by omega)) z51) | omega
            · refine b_193_27 _ _ _ ?_ ?_
              · intro z27
                refine b_193_42 _ _ _ ?_
                refine b_193_47 _ _ _ (by first | (exact hd_9) | assumption) (by omega) ?_
                refine g_fl1 hn rfl (by decide) ?_
                refine b_193_51 _ _ _ ?_ ?_
                · intro z51
                  refine b_193_79 _ _ _ ?_
                  exact K1 (fun g => hz g.2.2) _ h.er.er rfl
                · intro z51
                  first | (exact absurd z51 (by decide)) | (exact absurd (by decide) z51) | (exact absurd rfl z51) | (exact absurd z51 (of_nn (by omega))) | (exact absurd (of_np (by omega)) z51) | omega
              · intro z27
                first | (exact absurd z27 (by decide)) | (exact absurd (by decide) z27) | (exact absurd rfl z27) | (exact absurd z27 (of_nn (by omega))) | (exact absurd (of_np (by omega)) z27) | omega
        · refine b_193_15 _ _ _ ?_ ?_
          · intro z15
            refine b_193_42 _ _ _ ?_
            refine b_193_47 _ _ _ (by first | (exact hd_9) | assumption) (by omega) ?_
            refine g_fl1 hn rfl (by decide) ?_
            refine b_193_51 _ _ _ ?_ ?_
            · intro z51
              refine b_193_79 _ _ _ ?_
              exact K1 (fun g => hz g.2.2) _ h.er.er rfl
            · intro z51
              first | (exact absurd z51 (by decide)) | (exact absurd (by decide) z51) | (exact absurd rfl z51) | (exact absurd z51 (of_nn (by omega))) | (exact absurd (of_np (by omega)) z51) | omega
          · intro z15
            first | (exact absurd z15 (by decide)) | (exact absurd (by decide) z15) | (exact absurd rfl z15) | (exact absurd z15 (of_nn (by omega))) | (exact absurd (of_np (by omega)) z15) | omega
    · have hyg := fun g => hy (hyo.mp (hy4.mp g))
      refine b_193_0 _ _ _ (by first | (exact hd_9) | assumption) (by omega) (by rw [mL_len]; decide) ?_
      refine hw_W (gw_X (by decide)) ?_
      refine s_in (fun _ => ?_) (fun g => ?_)
      · refine b_193_15 _ _ _ ?_ ?_
        · intro z15
          first | (exact absurd z15 (by decide)) | (exact absurd (by decide) z15) | (exact absurd rfl z15) | (exact absurd z15 (of_nn (by omega))) | (exact absurd (of_np (by omega)) z15) | omega
        · intro z15
          refine b_193_18 _ _ _ ?_
          refine s_in (fun g => ?_) (fun g => ?_)
          · exact absurd g hyg
          · refine b_193_27 _ _ _ ?_ ?_
            · intro z27
              refine b_193_42 _ _ _ ?_
              refine b_193_47 _ _ _ (by first | (exact hd_9) | assumption) (by omega) ?_
              refine g_fl1 hn rfl (by decide) ?_
              refine b_193_51 _ _ _ ?_ ?_
              · intro z51
                refine b_193_79 _ _ _ ?_
                exact K1 (fun g => hy g.2.1) _ h.er.er rfl
              · intro z51
                first | (exact absurd z51 (by decide)) | (exact absurd (by decide) z51) | (exact absurd rfl z51) | (exact absurd z51 (of_nn (by omega))) | (exact absurd (of_np (by omega)) z51) | omega
            · intro z27
              first | (exact absurd z27 (by decide)) | (exact absurd (by decide) z27) | (exact absurd rfl z27) | (exact absurd z27 (of_nn (by omega))) | (exact absurd (of_np (by omega)) z27) | omega
      · refine b_193_15 _ _ _ ?_ ?_
        · intro z15
          refine b_193_42 _ _ _ ?_
          refine b_193_47 _ _ _ (by first | (exact hd_9) | assumption) (by omega) ?_
          refine g_fl1 hn rfl (by decide) ?_
          refine b_193_51 _ _ _ ?_ ?_
          · intro z51
            refine b_193_79 _ _ _ ?_
            exact K1 (fun g => hy g.2.1) _ h.er.er rfl
          · intro z51
            first | (exact absurd z51 (by decide)) | (exact absurd (by decide) z51) | (exact absurd rfl z51) | (exact absurd z51 (of_nn (by omega))) | (exact absurd (of_np (by omega)) z51) | omega
        · intro z15
          first | (exact absurd z15 (by decide)) | (exact absurd (by decide) z15) | (exact absurd rfl z15) | (exact absurd z15 (of_nn (by omega))) | (exact absurd (of_np (by omega)) z15) | omega
  · have hxg := fun g => hx (hxo.mp (hx4.mp g))
    refine b_193_0 _ _ _ (by first | (exact hd_9) | assumption) (by omega) (by rw [mL_len]; decide) ?_
    refine hw_W (gw_X (by decide)) ?_
    refine s_in (fun g => ?_) (fun g => ?_)
    · exact absurd g hxg
    · refine b_193_15 _ _ _ ?_ ?_
      · intro z15
        refine b_193_42 _ _ _ ?_
        refine b_193_47 _ _ _ (by first | (exact hd_9) | assumption) (by omega) ?_
        refine g_fl1 hn rfl (by decide) ?_
        refine b_193_51 _ _ _ ?_ ?_
        · intro z51
          refine b_193_79 _ _ _ ?_
          exact K1 (fun g => hx g.1) _ h.er.er rfl
        · intro z51
          first | (exact absurd z51 (by decide)) | (exact absurd (by decide) z51) | (exact absurd rfl z51) | (exact absurd z51 (of_nn (by omega))) | (exact absurd (of_np (by omega)) z51) | omega
      · intro z15
        first | (exact absurd z15 (by decide)) | (exact absurd (by decide) z15) | (exact absurd rfl z15) | (exact absurd z15 (of_nn (by omega))) | (exact absurd (of_np (by omega)) z15) | omega
theorem gq_wallet (h : gX r n sl b fd oc wr w many ins ev re con) (K1 : ¬ mp_V x y v → ∀ b', gX r n sl b' fd oc wr w many ins ev re con → b'.I 505 0 = 1 → Q (.inl (some (.long 0))) (n, sl, hd b' f0)) (K0 : ∀ i j, i < 8 → j < 4 → x = Int32.ofNat i → y = Int32.ofNat j → 0 ≤ v → v ≤ 2305843009213693952 → ∀ b', gX r n sl b' fd oc wr (va_up w (i * 4 + j) v) many ins ev re con → b'.I 505 0 = 0 → Q (.inl (some (.long (w (i * 4 + j))))) (n, sl, hd b' f0)) : mi_W (d + 1) 186 0 (mi_en 7 [.ref 505, .int x, .int y, .long v]) [] (n, sl, hd b f0) Q := by
  have hn := h.2.2.2.2.2.2.2.1.nn.1
  have hW := h.2.2.1
  have hx4 := mp_r64 (p := x) (b := 7) (b' := 7) rfl
  have hy4 := mp_r64 (p := y) (b := 3) (b' := 3) rfl
  by_cases hx : mp_r x 0 7
  · have hxg := hx4.mpr hx
    by_cases hy : mp_r y 0 3
    · have hyg := hy4.mpr hy
      by_cases hv : 0 ≤ v ∧ v ≤ 2305843009213693952
      · obtain ⟨i, hi, rfl⟩ := (mp_of (m := 7) (by decide)).mp hx
        obtain ⟨j, hj, rfl⟩ := (mp_of (m := 3) (by decide)).mp hy
        have hix := mx_4r (i := i) (j := j) (by omega) (by omega)
        refine b_186_0 _ _ _ (by first | (exact hd_9) | assumption) (by omega) (by rw [mL_len]; decide) ?_
        refine hw_W (gw_X (by decide)) ?_
        refine s_in (fun _ => ?_) (fun g => ?_)
        · refine b_186_15 _ _ _ ?_ ?_
          · intro z15
            first | (exact absurd z15 (by decide)) | (exact absurd (by decide) z15) | (exact absurd rfl z15) | (exact absurd z15 (of_nn (by omega))) | (exact absurd (of_np (by omega)) z15) | omega
          · intro z15
            refine b_186_18 _ _ _ ?_
            refine s_in (fun _ => ?_) (fun g => ?_)
            · refine b_186_27 _ _ _ ?_ ?_
              · intro z27
                first | (exact absurd z27 (by decide)) | (exact absurd (by decide) z27) | (exact absurd rfl z27) | (exact absurd z27 (of_nn (by omega))) | (exact absurd (of_np (by omega)) z27) | omega
              · intro z27
                refine b_186_30 _ _ _ ?_
                refine s_in (fun _ => ?_) (fun g => ?_)
                · refine b_186_38 _ _ _ ?_ ?_
                  · intro z38
                    refine b_186_45 _ _ _ ?_
                    refine b_186_46 _ _ _ (by first | (exact hd_9) | assumption) (by omega) ?_
                    refine g_fl0 hn rfl ?_
                    refine b_186_50 _ _ _ ?_ ?_
                    · intro z50
                      refine b_186_55 _ _ _ _ _ _ _ _ _ (by first | (exact hd_9) | assumption) (by omega) (by exact mL_get (by decide)) (by first | (exact hd_J (by omega) rfl) | (exact hd_L1 (by assumption)) | (exact hd_L2 (by assumption)) | (exact hd_L3 (by assumption)) | assumption) (by omega) (by first | assumption | (exact ix_of (by omega) (by omega)) | (exact ⟨by decide, rfl, by decide⟩)) (by first | (exact hd_9) | assumption) (by omega) (by exact mL_get (by decide)) (by first | (exact hd_J (by omega) rfl) | (exact hd_L1 (by assumption)) | (exact hd_L2 (by assumption)) | (exact hd_L3 (by assumption)) | assumption) (by omega) (by first | assumption | (exact ix_of (by omega) (by omega)) | (exact ⟨by decide, rfl, by decide⟩)) ?_
                      refine hw_Q ((by first | exact gw_J (by omega) rfl | exact gw_L1 (by assumption) | exact gw_L2 (by assumption) | exact gw_L3 (by assumption))) ?_
                      show Q (.inl (some (.long (b.J 550 (i * 4 + j))))) _
                      rw [hW _ (show i * 4 + j < 32 by omega)]
                      obtain ⟨h1, h2, h3, h5, h6, h7, h8, h9, h10⟩ := h
                      refine K0 i j (by omega) (by omega) rfl rfl hv.1 hv.2 _ ⟨h1, h2, fun q hq => ?_, h5, h6, h7, ?_, h9.to rfl rfl, h10⟩ rfl
                      · show vp_updL (b.J 550) (i * 4 + j) v q = _
                        by_cases e : q = i * 4 + j
                        · rw [e, upL_at, va_eq]
                        · rw [upL_ne e, va_ne e]
                          exact hW q hq
                      · cases con with
                        | none => exact h8
                        | some K => exact h8
                    · intro z50
                      first | (exact absurd z50 (by decide)) | (exact absurd (by decide) z50) | (exact absurd rfl z50) | (exact absurd z50 (of_nn (by omega))) | (exact absurd (of_np (by omega)) z50) | omega
                  · intro z38
                    first | (exact absurd z38 (by decide)) | (exact absurd (by decide) z38) | (exact absurd rfl z38) | (exact absurd z38 (of_nn (by omega))) | (exact absurd (of_np (by omega)) z38) | omega
                · exact absurd hv g
            · exact absurd hyg g
        · exact absurd hxg g
      · have hno := K1 (fun g => hv g.2.2)
        refine b_186_0 _ _ _ (by first | (exact hd_9) | assumption) (by omega) (by rw [mL_len]; decide) ?_
        refine hw_W (gw_X (by decide)) ?_
        refine s_in (fun _ => ?_) (fun g => ?_)
        · refine b_186_15 _ _ _ ?_ ?_
          · intro z15
            first | (exact absurd z15 (by decide)) | (exact absurd (by decide) z15) | (exact absurd rfl z15) | (exact absurd z15 (of_nn (by omega))) | (exact absurd (of_np (by omega)) z15) | omega
          · intro z15
            refine b_186_18 _ _ _ ?_
            refine s_in (fun _ => ?_) (fun g => ?_)
            · refine b_186_27 _ _ _ ?_ ?_
              · intro z27
                first | (exact absurd z27 (by decide)) | (exact absurd (by decide) z27) | (exact absurd rfl z27) | (exact absurd z27 (of_nn (by omega))) | (exact absurd (of_np (by omega)) z27) | omega
              · intro z27
                refine b_186_30 _ _ _ ?_
                refine s_in (fun g => ?_) (fun g => ?_)
                · exact absurd g hv
                · refine b_186_38 _ _ _ ?_ ?_
                  · intro z38
                    first | (exact absurd z38 (by decide)) | (exact absurd (by decide) z38) | (exact absurd rfl z38) | (exact absurd z38 (of_nn (by omega))) | (exact absurd (of_np (by omega)) z38) | omega
                  · intro z38
                    refine b_186_41 _ _ _ ?_
                    refine b_186_46 _ _ _ (by first | (exact hd_9) | assumption) (by omega) ?_
                    refine g_fl1 hn rfl (by decide) ?_
                    refine b_186_50 _ _ _ ?_ ?_
                    · intro z50
                      first | (exact absurd z50 (by decide)) | (exact absurd (by decide) z50) | (exact absurd rfl z50) | (exact absurd z50 (of_nn (by omega))) | (exact absurd (of_np (by omega)) z50) | omega
                    · intro z50
                      refine b_186_53 _ _ _ ?_
                      exact hno _ h.er.er rfl
            · refine b_186_27 _ _ _ ?_ ?_
              · intro z27
                refine b_186_41 _ _ _ ?_
                refine b_186_46 _ _ _ (by first | (exact hd_9) | assumption) (by omega) ?_
                refine g_fl1 hn rfl (by decide) ?_
                refine b_186_50 _ _ _ ?_ ?_
                · intro z50
                  first | (exact absurd z50 (by decide)) | (exact absurd (by decide) z50) | (exact absurd rfl z50) | (exact absurd z50 (of_nn (by omega))) | (exact absurd (of_np (by omega)) z50) | omega
                · intro z50
                  refine b_186_53 _ _ _ ?_
                  exact hno _ h.er.er rfl
              · intro z27
                first | (exact absurd z27 (by decide)) | (exact absurd (by decide) z27) | (exact absurd rfl z27) | (exact absurd z27 (of_nn (by omega))) | (exact absurd (of_np (by omega)) z27) | omega
        · refine b_186_15 _ _ _ ?_ ?_
          · intro z15
            refine b_186_41 _ _ _ ?_
            refine b_186_46 _ _ _ (by first | (exact hd_9) | assumption) (by omega) ?_
            refine g_fl1 hn rfl (by decide) ?_
            refine b_186_50 _ _ _ ?_ ?_
            · intro z50
              first | (exact absurd z50 (by decide)) | (exact absurd (by decide) z50) | (exact absurd rfl z50) | (exact absurd z50 (of_nn (by omega))) | (exact absurd (of_np (by omega)) z50) | omega
            · intro z50
              refine b_186_53 _ _ _ ?_
              exact hno _ h.er.er rfl
          · intro z15
            first | (exact absurd z15 (by decide)) | (exact absurd (by decide) z15) | (exact absurd rfl z15) | (exact absurd z15 (of_nn (by omega))) | (exact absurd (of_np (by omega)) z15) | omega
    · have hyg := fun g => hy (hy4.mp g)
      have hno := K1 (fun g => hy g.2.1)
      refine b_186_0 _ _ _ (by first | (exact hd_9) | assumption) (by omega) (by rw [mL_len]; decide) ?_
      refine hw_W (gw_X (by decide)) ?_
      refine s_in (fun _ => ?_) (fun g => ?_)
      · refine b_186_15 _ _ _ ?_ ?_
        · intro z15
          first | (exact absurd z15 (by decide)) | (exact absurd (by decide) z15) | (exact absurd rfl z15) | (exact absurd z15 (of_nn (by omega))) | (exact absurd (of_np (by omega)) z15) | omega
        · intro z15
          refine b_186_18 _ _ _ ?_
          refine s_in (fun g => ?_) (fun g => ?_)
          · exact absurd g hyg
          · refine b_186_27 _ _ _ ?_ ?_
            · intro z27
              refine b_186_41 _ _ _ ?_
              refine b_186_46 _ _ _ (by first | (exact hd_9) | assumption) (by omega) ?_
              refine g_fl1 hn rfl (by decide) ?_
              refine b_186_50 _ _ _ ?_ ?_
              · intro z50
                first | (exact absurd z50 (by decide)) | (exact absurd (by decide) z50) | (exact absurd rfl z50) | (exact absurd z50 (of_nn (by omega))) | (exact absurd (of_np (by omega)) z50) | omega
              · intro z50
                refine b_186_53 _ _ _ ?_
                exact hno _ h.er.er rfl
            · intro z27
              first | (exact absurd z27 (by decide)) | (exact absurd (by decide) z27) | (exact absurd rfl z27) | (exact absurd z27 (of_nn (by omega))) | (exact absurd (of_np (by omega)) z27) | omega
      · refine b_186_15 _ _ _ ?_ ?_
        · intro z15
          refine b_186_41 _ _ _ ?_
          refine b_186_46 _ _ _ (by first | (exact hd_9) | assumption) (by omega) ?_
          refine g_fl1 hn rfl (by decide) ?_
          refine b_186_50 _ _ _ ?_ ?_
          · intro z50
            first | (exact absurd z50 (by decide)) | (exact absurd (by decide) z50) | (exact absurd rfl z50) | (exact absurd z50 (of_nn (by omega))) | (exact absurd (of_np (by omega)) z50) | omega
          · intro z50
            refine b_186_53 _ _ _ ?_
            exact hno _ h.er.er rfl
        · intro z15
          first | (exact absurd z15 (by decide)) | (exact absurd (by decide) z15) | (exact absurd rfl z15) | (exact absurd z15 (of_nn (by omega))) | (exact absurd (of_np (by omega)) z15) | omega
  · have hxg := fun g => hx (hx4.mp g)
    have hno := K1 (fun g => hx g.1)
    refine b_186_0 _ _ _ (by first | (exact hd_9) | assumption) (by omega) (by rw [mL_len]; decide) ?_
    refine hw_W (gw_X (by decide)) ?_
    refine s_in (fun g => ?_) (fun g => ?_)
    · exact absurd g hxg
    · refine b_186_15 _ _ _ ?_ ?_
      · intro z15
        refine b_186_41 _ _ _ ?_
        refine b_186_46 _ _ _ (by first | (exact hd_9) | assumption) (by omega) ?_
        refine g_fl1 hn rfl (by decide) ?_
        refine b_186_50 _ _ _ ?_ ?_
        · intro z50
          first | (exact absurd z50 (by decide)) | (exact absurd (by decide) z50) | (exact absurd rfl z50) | (exact absurd z50 (of_nn (by omega))) | (exact absurd (of_np (by omega)) z50) | omega
        · intro z50
          refine b_186_53 _ _ _ ?_
          exact hno _ h.er.er rfl
      · intro z15
        first | (exact absurd z15 (by decide)) | (exact absurd (by decide) z15) | (exact absurd rfl z15) | (exact absurd z15 (of_nn (by omega))) | (exact absurd (of_np (by omega)) z15) | omega
end
