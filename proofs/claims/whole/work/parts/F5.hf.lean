/-! the first object: state, wallet, inputs -/
section
variable {d e n sl fd many : Nat} {a a' : mh_A} {f0 : Nat → mi_C} {Q : (Option Value ⊕ Nat) → mi_H → Prop} {oc : Nat → Int32} {wr x y z : Int32} {w : Nat → Int64} {ins : Nat → mv_I} {ev : mv_Z} {re : ma_R} {con : Option mx_K} {v : Int64}
theorem cq_req (hn : 575 ≤ n) (hN : n < 601000 ∧ sl ≤ 7293000) (hC : cCo a con) (K1 : con = none → Q (.inr n) (n + 1, sl + 6, hc a (va_up f0 n (.inr (16, []))))) (K0 : ∀ K, con = some K → cKo a K → Q (.inl none) (n, sl, hc a f0)) : mi_W d 72 0 (mi_en 1 [.ref 0]) [] (n, sl, hc a f0) Q := by
  rcases hC.i9 with ⟨h, e9⟩ | ⟨K, h, hK, e9⟩
  · skip
    refine b_72_0 _ _ _ (by first | (exact hc_o (by first | assumption | (exact ⟨by decide, rfl⟩))) | assumption | (exact (hc_far (by omega)).trans (by assumption))) (by omega) (by first | rfl | assumption) ?_ ?_
    · intro z0
      exact absurd e9 z0
    · intro z0
      refine b_72_7 _ _ _ (mi_tq_ok (ce := 16) (by decide +kernel) (by omega) (by omega)) ?_
      refine hw_Q (hc_out (by omega)) ?_
      exact K1 h
  · skip
    refine b_72_0 _ _ _ (by first | (exact hc_o (by first | assumption | (exact ⟨by decide, rfl⟩))) | assumption | (exact (hc_far (by omega)).trans (by assumption))) (by omega) (by first | rfl | assumption) ?_ ?_
    · intro z0
      refine b_72_17 _ _ _ ?_
      exact K0 K h hK
    · intro z0
      exact absurd (by rw [e9]; decide) z0
theorem cq_state (hn : 575 ≤ n) (hN : n < 601000 ∧ sl ≤ 7293000) (h : cX a fd oc wr w many ins ev re con) (K1 : ¬ ((∃ i, i ≤ 4 ∧ x = Int32.ofNat i) ∧ (∃ i, i ≤ 7 ∧ y = Int32.ofNat i) ∧ ∃ i, i ≤ 3 ∧ z = Int32.ofNat i) → Q (.inr n) (n + 1, sl + 6, hc a (va_up f0 n (.inr (15, []))))) (K2 : ∀ i j k, i ≤ 4 → j ≤ 7 → k ≤ 3 → x = Int32.ofNat i → y = Int32.ofNat j → z = Int32.ofNat k → ¬ i = 1 → con = none → Q (.inr n) (n + 1, sl + 6, hc a (va_up f0 n (.inr (16, []))))) (K0 : ∀ i j k, i ≤ 4 → j ≤ 7 → k ≤ 3 → x = Int32.ofNat i → y = Int32.ofNat j → z = Int32.ofNat k → (i = 1 ∨ ¬ con = none) → Q (.inl (some (.long (mx_stv w i j k con)))) (n, sl, hc a f0)) : mi_W (d + 1) 118 0 (mi_en 4 [.ref 0, .int x, .int y, .int z]) [] (n, sl, hc a f0) Q := by
  have hC := h.2.2.2.2.2.2
  have hW := h.2.2.1
  by_cases hx : ∃ i, i ≤ 4 ∧ x = Int32.ofNat i
  · by_cases hy : ∃ i, i ≤ 7 ∧ y = Int32.ofNat i
    · by_cases hz : ∃ i, i ≤ 3 ∧ z = Int32.ofNat i
      · have py : mp_r y 0 7 := (mp_of (m := 7) (by decide)).mpr hy
        have pz : mp_r z 0 3 := (mp_of (m := 3) (by decide)).mpr hz
        obtain ⟨i, hi, rfl⟩ := hx
        obtain ⟨j, hj, rfl⟩ := hy
        obtain ⟨k, hk, rfl⟩ := hz
        have hix := mx_4 (i := j) (j := k) (by omega) (by omega)
        have hixj := ix_of (w := j) (m := 8) (by omega) (by omega)
        rcases (by omega : i = 0 ∨ i = 1 ∨ i = 2 ∨ i = 3 ∨ i = 4) with rfl | rfl | rfl | rfl | rfl
        · show mi_W (d + 1) 118 0 (mi_en 4 [.ref 0, .int 0, .int (Int32.ofNat j), .int (Int32.ofNat k)]) [] (n, sl, hc a f0) Q
          refine b_118_0 _ _ _ ?_ ?_
          · intro z0
            first | (exact absurd z0 (by decide)) | (exact absurd (by decide) z0) | (exact absurd rfl z0) | (exact absurd z0 (of_nn (by omega))) | (exact absurd (of_np (by omega)) z0) | omega
          · intro z0
            refine b_118_4 _ _ _ ?_ ?_
            · intro z4
              first | (exact absurd z4 (by decide)) | (exact absurd (by decide) z4) | (exact absurd rfl z4) | (exact absurd z4 (of_nn (by omega))) | (exact absurd (of_np (by omega)) z4) | omega
            · intro z4
              refine b_118_9 _ _ _ ?_
              refine s_isP (fun _ => ?_) (fun g => absurd py g)
              refine b_118_13 _ _ _ ?_ ?_
              · intro z13
                first | (exact absurd z13 (by decide)) | (exact absurd (by decide) z13) | (exact absurd rfl z13) | (exact absurd z13 (of_nn (by omega))) | (exact absurd (of_np (by omega)) z13) | omega
              · intro z13
                refine b_118_16 _ _ _ ?_
                refine s_isT (fun _ => ?_) (fun g => absurd pz g)
                refine b_118_20 _ _ _ ?_ ?_
                · intro z20
                  refine b_118_33 _ _ _ ?_ ?_
                  · intro z33
                    refine b_118_52 _ _ _ (by first | (exact hc_o (by first | assumption | (exact ⟨by decide, rfl⟩))) | assumption | (exact (hc_far (by omega)).trans (by assumption))) (by omega) ?_
                    refine cq_req hn hN hC (fun h0 => ?_) (fun K h0 hK => ?_)
                    · refine hx_c (by decide +kernel) (by omega) ?_
                      exact K2 0 j k (by decide) hj hk rfl rfl rfl (by decide) h0
                    · subst h0
                      have k0 := K0 0 j k (by decide) hj hk rfl rfl rfl (Or.inr (fun h => by cases h))
                      obtain ⟨-, -, hS, -⟩ := hK
                      refine b_118_56 (t5 := 88) _ _ _ (by decide +kernel) ?_
                      refine b_118_88 _ _ _ _ _ _ (by first | (exact hc_o (by first | assumption | (exact ⟨by decide, rfl⟩))) | assumption | (exact (hc_far (by omega)).trans (by assumption))) (by omega) (by first | rfl | assumption) (by first | (exact hc_o (by first | assumption | (exact ⟨by decide, rfl⟩))) | assumption | (exact (hc_far (by omega)).trans (by assumption))) (by omega) (by first | rfl | assumption) (by first | (exact hc_al (by omega) (by first | assumption | (exact (ht9 (by assumption)).2.1) | (exact (ht9 (by assumption)).2.2.1) | (exact (ht9 (by assumption)).2.2.2) | rfl)) | assumption | (exact (hc_far (by omega)).trans (by assumption))) (by omega) (by first | assumption | (exact ix_of (by omega) (by omega)) | (exact ⟨by decide, rfl, by decide⟩)) ?_
                      show Q (.inl (some (.long (a.AL 9 497 2 (j * 4 + k))))) _
                      rw [hS.2.2.2.1 _ (show j * 4 + k < 32 by omega)]
                      exact k0
                  · intro z33
                    first | (exact absurd z33 (by decide)) | (exact absurd (by decide) z33) | (exact absurd rfl z33) | (exact absurd z33 (of_nn (by omega))) | (exact absurd (of_np (by omega)) z33) | omega
                · intro z20
                  first | (exact absurd z20 (by decide)) | (exact absurd (by decide) z20) | (exact absurd rfl z20) | (exact absurd z20 (of_nn (by omega))) | (exact absurd (of_np (by omega)) z20) | omega
        · show mi_W (d + 1) 118 0 (mi_en 4 [.ref 0, .int 1, .int (Int32.ofNat j), .int (Int32.ofNat k)]) [] (n, sl, hc a f0) Q
          refine b_118_0 _ _ _ ?_ ?_
          · intro z0
            first | (exact absurd z0 (by decide)) | (exact absurd (by decide) z0) | (exact absurd rfl z0) | (exact absurd z0 (of_nn (by omega))) | (exact absurd (of_np (by omega)) z0) | omega
          · intro z0
            refine b_118_4 _ _ _ ?_ ?_
            · intro z4
              first | (exact absurd z4 (by decide)) | (exact absurd (by decide) z4) | (exact absurd rfl z4) | (exact absurd z4 (of_nn (by omega))) | (exact absurd (of_np (by omega)) z4) | omega
            · intro z4
              refine b_118_9 _ _ _ ?_
              refine s_isP (fun _ => ?_) (fun g => absurd py g)
              refine b_118_13 _ _ _ ?_ ?_
              · intro z13
                first | (exact absurd z13 (by decide)) | (exact absurd (by decide) z13) | (exact absurd rfl z13) | (exact absurd z13 (of_nn (by omega))) | (exact absurd (of_np (by omega)) z13) | omega
              · intro z13
                refine b_118_16 _ _ _ ?_
                refine s_isT (fun _ => ?_) (fun g => absurd pz g)
                refine b_118_20 _ _ _ ?_ ?_
                · intro z20
                  refine b_118_33 _ _ _ ?_ ?_
                  · intro z33
                    first | (exact absurd z33 (by decide)) | (exact absurd (by decide) z33) | (exact absurd rfl z33) | (exact absurd z33 (of_nn (by omega))) | (exact absurd (of_np (by omega)) z33) | omega
                  · intro z33
                    refine b_118_38 _ _ _ _ _ _ (by first | (exact hc_o (by first | assumption | (exact ⟨by decide, rfl⟩))) | assumption | (exact (hc_far (by omega)).trans (by assumption))) (by omega) (by first | rfl | assumption) (by first | (exact hc_o (by first | assumption | (exact ⟨by decide, rfl⟩))) | assumption | (exact (hc_far (by omega)).trans (by assumption))) (by omega) (by first | rfl | assumption) (by first | (exact hc_al (by omega) (by first | assumption | (exact (ht9 (by assumption)).2.1) | (exact (ht9 (by assumption)).2.2.1) | (exact (ht9 (by assumption)).2.2.2) | rfl)) | assumption | (exact (hc_far (by omega)).trans (by assumption))) (by omega) (by first | assumption | (exact ix_of (by omega) (by omega)) | (exact ⟨by decide, rfl, by decide⟩)) ?_
                    rw [hW _ (by omega)]
                    have := K0 1 j k (by decide) hj hk rfl rfl rfl (Or.inl rfl)
                    cases con <;> exact this
                · intro z20
                  first | (exact absurd z20 (by decide)) | (exact absurd (by decide) z20) | (exact absurd rfl z20) | (exact absurd z20 (of_nn (by omega))) | (exact absurd (of_np (by omega)) z20) | omega
        · show mi_W (d + 1) 118 0 (mi_en 4 [.ref 0, .int 2, .int (Int32.ofNat j), .int (Int32.ofNat k)]) [] (n, sl, hc a f0) Q
          refine b_118_0 _ _ _ ?_ ?_
          · intro z0
            first | (exact absurd z0 (by decide)) | (exact absurd (by decide) z0) | (exact absurd rfl z0) | (exact absurd z0 (of_nn (by omega))) | (exact absurd (of_np (by omega)) z0) | omega
          · intro z0
            refine b_118_4 _ _ _ ?_ ?_
            · intro z4
              first | (exact absurd z4 (by decide)) | (exact absurd (by decide) z4) | (exact absurd rfl z4) | (exact absurd z4 (of_nn (by omega))) | (exact absurd (of_np (by omega)) z4) | omega
            · intro z4
              refine b_118_9 _ _ _ ?_
              refine s_isP (fun _ => ?_) (fun g => absurd py g)
              refine b_118_13 _ _ _ ?_ ?_
              · intro z13
                first | (exact absurd z13 (by decide)) | (exact absurd (by decide) z13) | (exact absurd rfl z13) | (exact absurd z13 (of_nn (by omega))) | (exact absurd (of_np (by omega)) z13) | omega
              · intro z13
                refine b_118_16 _ _ _ ?_
                refine s_isT (fun _ => ?_) (fun g => absurd pz g)
                refine b_118_20 _ _ _ ?_ ?_
                · intro z20
                  refine b_118_33 _ _ _ ?_ ?_
                  · intro z33
                    refine b_118_52 _ _ _ (by first | (exact hc_o (by first | assumption | (exact ⟨by decide, rfl⟩))) | assumption | (exact (hc_far (by omega)).trans (by assumption))) (by omega) ?_
                    refine cq_req hn hN hC (fun h0 => ?_) (fun K h0 hK => ?_)
                    · refine hx_c (by decide +kernel) (by omega) ?_
                      exact K2 2 j k (by decide) hj hk rfl rfl rfl (by decide) h0
                    · subst h0
                      have k0 := K0 2 j k (by decide) hj hk rfl rfl rfl (Or.inr (fun h => by cases h))
                      obtain ⟨-, -, hS, -⟩ := hK
                      refine b_118_56 (t5 := 102) _ _ _ (by decide +kernel) ?_
                      refine b_118_102 _ _ _ _ _ _ (by first | (exact hc_o (by first | assumption | (exact ⟨by decide, rfl⟩))) | assumption | (exact (hc_far (by omega)).trans (by assumption))) (by omega) (by first | rfl | assumption) (by first | (exact hc_o (by first | assumption | (exact ⟨by decide, rfl⟩))) | assumption | (exact (hc_far (by omega)).trans (by assumption))) (by omega) (by first | rfl | assumption) (by first | (exact hc_al (by omega) (by first | assumption | (exact (ht9 (by assumption)).2.1) | (exact (ht9 (by assumption)).2.2.1) | (exact (ht9 (by assumption)).2.2.2) | rfl)) | assumption | (exact (hc_far (by omega)).trans (by assumption))) (by omega) (by first | assumption | (exact ix_of (by omega) (by omega)) | (exact ⟨by decide, rfl, by decide⟩)) ?_
                      show Q (.inl (some (.long (a.AL 9 497 3 j)))) _
                      rw [hS.2.2.2.2.1 j (by omega)]
                      exact k0
                  · intro z33
                    first | (exact absurd z33 (by decide)) | (exact absurd (by decide) z33) | (exact absurd rfl z33) | (exact absurd z33 (of_nn (by omega))) | (exact absurd (of_np (by omega)) z33) | omega
                · intro z20
                  first | (exact absurd z20 (by decide)) | (exact absurd (by decide) z20) | (exact absurd rfl z20) | (exact absurd z20 (of_nn (by omega))) | (exact absurd (of_np (by omega)) z20) | omega
        · show mi_W (d + 1) 118 0 (mi_en 4 [.ref 0, .int 3, .int (Int32.ofNat j), .int (Int32.ofNat k)]) [] (n, sl, hc a f0) Q
          refine b_118_0 _ _ _ ?_ ?_
          · intro z0
            first | (exact absurd z0 (by decide)) | (exact absurd (by decide) z0) | (exact absurd rfl z0) | (exact absurd z0 (of_nn (by omega))) | (exact absurd (of_np (by omega)) z0) | omega
          · intro z0
            refine b_118_4 _ _ _ ?_ ?_
            · intro z4
              first | (exact absurd z4 (by decide)) | (exact absurd (by decide) z4) | (exact absurd rfl z4) | (exact absurd z4 (of_nn (by omega))) | (exact absurd (of_np (by omega)) z4) | omega
            · intro z4
              refine b_118_9 _ _ _ ?_
              refine s_isP (fun _ => ?_) (fun g => absurd py g)
              refine b_118_13 _ _ _ ?_ ?_
              · intro z13
                first | (exact absurd z13 (by decide)) | (exact absurd (by decide) z13) | (exact absurd rfl z13) | (exact absurd z13 (of_nn (by omega))) | (exact absurd (of_np (by omega)) z13) | omega
              · intro z13
                refine b_118_16 _ _ _ ?_
                refine s_isT (fun _ => ?_) (fun g => absurd pz g)
                refine b_118_20 _ _ _ ?_ ?_
                · intro z20
                  refine b_118_33 _ _ _ ?_ ?_
                  · intro z33
                    refine b_118_52 _ _ _ (by first | (exact hc_o (by first | assumption | (exact ⟨by decide, rfl⟩))) | assumption | (exact (hc_far (by omega)).trans (by assumption))) (by omega) ?_
                    refine cq_req hn hN hC (fun h0 => ?_) (fun K h0 hK => ?_)
                    · refine hx_c (by decide +kernel) (by omega) ?_
                      exact K2 3 j k (by decide) hj hk rfl rfl rfl (by decide) h0
                    · subst h0
                      have k0 := K0 3 j k (by decide) hj hk rfl rfl rfl (Or.inr (fun h => by cases h))
                      obtain ⟨-, -, hS, -⟩ := hK
                      refine b_118_56 (t5 := 112) _ _ _ (by decide +kernel) ?_
                      refine b_118_112 _ _ _ _ _ _ (by first | (exact hc_o (by first | assumption | (exact ⟨by decide, rfl⟩))) | assumption | (exact (hc_far (by omega)).trans (by assumption))) (by omega) (by first | rfl | assumption) (by first | (exact hc_o (by first | assumption | (exact ⟨by decide, rfl⟩))) | assumption | (exact (hc_far (by omega)).trans (by assumption))) (by omega) (by first | rfl | assumption) (by first | (exact hc_al (by omega) (by first | assumption | (exact (ht9 (by assumption)).2.1) | (exact (ht9 (by assumption)).2.2.1) | (exact (ht9 (by assumption)).2.2.2) | rfl)) | assumption | (exact (hc_far (by omega)).trans (by assumption))) (by omega) (by first | assumption | (exact ix_of (by omega) (by omega)) | (exact ⟨by decide, rfl, by decide⟩)) ?_
                      show Q (.inl (some (.long (a.AL 9 497 4 j)))) _
                      rw [hS.2.2.2.2.2.1 j (by omega)]
                      exact k0
                  · intro z33
                    first | (exact absurd z33 (by decide)) | (exact absurd (by decide) z33) | (exact absurd rfl z33) | (exact absurd z33 (of_nn (by omega))) | (exact absurd (of_np (by omega)) z33) | omega
                · intro z20
                  first | (exact absurd z20 (by decide)) | (exact absurd (by decide) z20) | (exact absurd rfl z20) | (exact absurd z20 (of_nn (by omega))) | (exact absurd (of_np (by omega)) z20) | omega
        · show mi_W (d + 1) 118 0 (mi_en 4 [.ref 0, .int 4, .int (Int32.ofNat j), .int (Int32.ofNat k)]) [] (n, sl, hc a f0) Q
          refine b_118_0 _ _ _ ?_ ?_
          · intro z0
            first | (exact absurd z0 (by decide)) | (exact absurd (by decide) z0) | (exact absurd rfl z0) | (exact absurd z0 (of_nn (by omega))) | (exact absurd (of_np (by omega)) z0) | omega
          · intro z0
            refine b_118_4 _ _ _ ?_ ?_
            · intro z4
              first | (exact absurd z4 (by decide)) | (exact absurd (by decide) z4) | (exact absurd rfl z4) | (exact absurd z4 (of_nn (by omega))) | (exact absurd (of_np (by omega)) z4) | omega
            · intro z4
              refine b_118_9 _ _ _ ?_
              refine s_isP (fun _ => ?_) (fun g => absurd py g)
              refine b_118_13 _ _ _ ?_ ?_
              · intro z13
                first | (exact absurd z13 (by decide)) | (exact absurd (by decide) z13) | (exact absurd rfl z13) | (exact absurd z13 (of_nn (by omega))) | (exact absurd (of_np (by omega)) z13) | omega
              · intro z13
                refine b_118_16 _ _ _ ?_
                refine s_isT (fun _ => ?_) (fun g => absurd pz g)
                refine b_118_20 _ _ _ ?_ ?_
                · intro z20
                  refine b_118_33 _ _ _ ?_ ?_
                  · intro z33
                    refine b_118_52 _ _ _ (by first | (exact hc_o (by first | assumption | (exact ⟨by decide, rfl⟩))) | assumption | (exact (hc_far (by omega)).trans (by assumption))) (by omega) ?_
                    refine cq_req hn hN hC (fun h0 => ?_) (fun K h0 hK => ?_)
                    · refine hx_c (by decide +kernel) (by omega) ?_
                      exact K2 4 j k (by decide) hj hk rfl rfl rfl (by decide) h0
                    · subst h0
                      have k0 := K0 4 j k (by decide) hj hk rfl rfl rfl (Or.inr (fun h => by cases h))
                      obtain ⟨-, -, hS, -⟩ := hK
                      refine b_118_56 (t5 := 122) _ _ _ (by decide +kernel) ?_
                      refine b_118_122 _ _ _ (by first | (exact hc_o (by first | assumption | (exact ⟨by decide, rfl⟩))) | assumption | (exact (hc_far (by omega)).trans (by assumption))) (by omega) (by first | rfl | assumption) (by first | (exact hc_o (by first | assumption | (exact ⟨by decide, rfl⟩))) | assumption | (exact (hc_far (by omega)).trans (by assumption))) (by omega) (by first | rfl | assumption) ?_
                      show Q (.inl (some (.long (a.L 9 497 1)))) _
                      rw [hS.2.2.1]
                      exact k0
                  · intro z33
                    first | (exact absurd z33 (by decide)) | (exact absurd (by decide) z33) | (exact absurd rfl z33) | (exact absurd z33 (of_nn (by omega))) | (exact absurd (of_np (by omega)) z33) | omega
                · intro z20
                  first | (exact absurd z20 (by decide)) | (exact absurd (by decide) z20) | (exact absurd rfl z20) | (exact absurd z20 (of_nn (by omega))) | (exact absurd (of_np (by omega)) z20) | omega
      · have hno := K1 (fun g => hz g.2.2)
        have hm : ¬ mp_r z 0 3 := fun g => hz ((mp_of (p := z) (m := 3) (by decide)).mp g)
        refine b_118_0 _ _ _ ?_ ?_
        · intro z0
          refine b_118_23 _ _ _ (mi_tq_ok (ce := 15) (by decide +kernel) (by omega) (by omega)) ?_
          refine hw_Q (hc_out (by omega)) ?_
          exact hno
        · intro z0
          refine b_118_4 _ _ _ ?_ ?_
          · intro z4
            refine b_118_23 _ _ _ (mi_tq_ok (ce := 15) (by decide +kernel) (by omega) (by omega)) ?_
            refine hw_Q (hc_out (by omega)) ?_
            exact hno
          · intro z4
            refine b_118_9 _ _ _ ?_
            refine s_isP (fun _ => ?_) (fun g => ?_)
            · refine b_118_13 _ _ _ ?_ ?_
              · intro z13
                first | (exact absurd z13 (by decide)) | (exact absurd (by decide) z13) | (exact absurd rfl z13) | (exact absurd z13 (of_nn (by omega))) | (exact absurd (of_np (by omega)) z13) | omega
              · intro z13
                refine b_118_16 _ _ _ ?_
                refine s_isT (fun g => absurd g hm) (fun g => ?_)
                refine b_118_20 _ _ _ ?_ ?_
                · intro z20
                  first | (exact absurd z20 (by decide)) | (exact absurd (by decide) z20) | (exact absurd rfl z20) | (exact absurd z20 (of_nn (by omega))) | (exact absurd (of_np (by omega)) z20) | omega
                · intro z20
                  refine b_118_23 _ _ _ (mi_tq_ok (ce := 15) (by decide +kernel) (by omega) (by omega)) ?_
                  refine hw_Q (hc_out (by omega)) ?_
                  exact hno
            · refine b_118_13 _ _ _ ?_ ?_
              · intro z13
                refine b_118_23 _ _ _ (mi_tq_ok (ce := 15) (by decide +kernel) (by omega) (by omega)) ?_
                refine hw_Q (hc_out (by omega)) ?_
                exact hno
              · intro z13
                first | (exact absurd z13 (by decide)) | (exact absurd (by decide) z13) | (exact absurd rfl z13) | (exact absurd z13 (of_nn (by omega))) | (exact absurd (of_np (by omega)) z13) | omega
    · have hno := K1 (fun g => hy g.2.1)
      have hm : ¬ mp_r y 0 7 := fun g => hy ((mp_of (p := y) (m := 7) (by decide)).mp g)
      refine b_118_0 _ _ _ ?_ ?_
      · intro z0
        refine b_118_23 _ _ _ (mi_tq_ok (ce := 15) (by decide +kernel) (by omega) (by omega)) ?_
        refine hw_Q (hc_out (by omega)) ?_
        exact hno
      · intro z0
        refine b_118_4 _ _ _ ?_ ?_
        · intro z4
          refine b_118_23 _ _ _ (mi_tq_ok (ce := 15) (by decide +kernel) (by omega) (by omega)) ?_
          refine hw_Q (hc_out (by omega)) ?_
          exact hno
        · intro z4
          refine b_118_9 _ _ _ ?_
          refine s_isP (fun g => absurd g hm) (fun g => ?_)
          refine b_118_13 _ _ _ ?_ ?_
          · intro z13
            refine b_118_23 _ _ _ (mi_tq_ok (ce := 15) (by decide +kernel) (by omega) (by omega)) ?_
            refine hw_Q (hc_out (by omega)) ?_
            exact hno
          · intro z13
            first | (exact absurd z13 (by decide)) | (exact absurd (by decide) z13) | (exact absurd rfl z13) | (exact absurd z13 (of_nn (by omega))) | (exact absurd (of_np (by omega)) z13) | omega
  · have hno := K1 (fun g => hx g.1)
    have hm := fun h => hx ((mp_of (p := x) (m := 4) (by decide)).mp h)
    unfold mp_r at hm
    refine b_118_0 _ _ _ ?_ ?_
    · intro z0
      refine b_118_23 _ _ _ (mi_tq_ok (ce := 15) (by decide +kernel) (by omega) (by omega)) ?_
      refine hw_Q (hc_out (by omega)) ?_
      exact hno
    · intro z0
      refine b_118_4 _ _ _ ?_ ?_
      · intro z4
        refine b_118_23 _ _ _ (mi_tq_ok (ce := 15) (by decide +kernel) (by omega) (by omega)) ?_
        refine hw_Q (hc_out (by omega)) ?_
        exact hno
      · intro z4
        exact absurd ⟨z0, z4⟩ hm
theorem cq_wallet (hn : 575 ≤ n) (hN : n < 601000 ∧ sl ≤ 7293000) (h : cX a fd oc wr w many ins ev re con) (K1 : ¬ mp_V x y v → Q (.inr n) (n + 1, sl + 6, hc a (va_up f0 n (.inr (15, []))))) (K0 : ∀ i j, i < 8 → j < 4 → x = Int32.ofNat i → y = Int32.ofNat j → 0 ≤ v → v ≤ 2305843009213693952 → ∀ a', cX a' fd oc wr (va_up w (i * 4 + j) v) many ins ev re con → Q (.inl (some (.long (w (i * 4 + j))))) (n, sl, hc a' f0)) : mi_W (d + 1) 59 0 (mi_en 8 [.ref 0, .int x, .int y, .long v]) [] (n, sl, hc a f0) Q := by
  have hW := h.2.2.1
  by_cases hy : mp_r x 0 7
  · by_cases hz : mp_r y 0 3
    · obtain ⟨i, hi, rfl⟩ := (mp_of (m := 7) (by decide)).mp hy
      obtain ⟨j, hj, rfl⟩ := (mp_of (m := 3) (by decide)).mp hz
      have hix := mx_4 (i := i) (j := j) (by omega) (by omega)
      refine b_59_0 _ _ _ ?_
      refine s_isP (fun _ => ?_) (fun g => absurd hy g)
      refine b_59_4 _ _ _ ?_ ?_
      · intro z4
        first | (exact absurd z4 (by decide)) | (exact absurd (by decide) z4) | (exact absurd rfl z4) | (exact absurd z4 (of_nn (by omega))) | (exact absurd (of_np (by omega)) z4) | omega
      · intro z4
        refine b_59_7 _ _ _ ?_
        refine s_isT (fun _ => ?_) (fun g => absurd hz g)
        refine b_59_11 _ _ _ ?_ ?_
        · intro z11
          first | (exact absurd z11 (by decide)) | (exact absurd (by decide) z11) | (exact absurd rfl z11) | (exact absurd z11 (of_nn (by omega))) | (exact absurd (of_np (by omega)) z11) | omega
        · intro z11
          refine b_59_14 _ _ _ ?_ ?_
          · intro z14
            refine b_59_28 _ _ _ (mi_tq_ok (ce := 15) (by decide +kernel) (by omega) (by omega)) ?_
            refine hw_Q (hc_out (by omega)) ?_
            first | exact K1 (fun g => Int64.not_lt.mpr g.2.2.1 (lg_lt.mp z14)) | exact K1 (fun g => z20 (lg_le.mpr g.2.2.2))
          · intro z14
            refine b_59_20 _ _ _ ?_ ?_
            · intro z20
              refine b_59_38 _ _ _ _ _ _ _ _ _ (by first | (exact hc_o (by first | assumption | (exact ⟨by decide, rfl⟩))) | assumption | (exact (hc_far (by omega)).trans (by assumption))) (by omega) (by first | rfl | assumption) (by first | (exact hc_o (by first | assumption | (exact ⟨by decide, rfl⟩))) | assumption | (exact (hc_far (by omega)).trans (by assumption))) (by omega) (by first | rfl | assumption) (by first | (exact hc_al (by omega) (by first | assumption | (exact (ht9 (by assumption)).2.1) | (exact (ht9 (by assumption)).2.2.1) | (exact (ht9 (by assumption)).2.2.2) | rfl)) | assumption | (exact (hc_far (by omega)).trans (by assumption))) (by omega) (by first | assumption | (exact ix_of (by omega) (by omega)) | (exact ⟨by decide, rfl, by decide⟩)) (by first | (exact hc_o (by first | assumption | (exact ⟨by decide, rfl⟩))) | assumption | (exact (hc_far (by omega)).trans (by assumption))) (by omega) (by first | rfl | assumption) (by first | (exact hc_o (by first | assumption | (exact ⟨by decide, rfl⟩))) | assumption | (exact (hc_far (by omega)).trans (by assumption))) (by omega) (by first | rfl | assumption) (by first | (exact hc_al (by omega) (by first | assumption | (exact (ht9 (by assumption)).2.1) | (exact (ht9 (by assumption)).2.2.1) | (exact (ht9 (by assumption)).2.2.2) | rfl)) | assumption | (exact (hc_far (by omega)).trans (by assumption))) (by omega) (by first | assumption | (exact ix_of (by omega) (by omega)) | (exact ⟨by decide, rfl, by decide⟩)) ?_
              refine hw_Q (hw_AL (by omega) (by first | assumption | (exact (ht9 (by assumption)).2.1) | (exact (ht9 (by assumption)).2.2.1) | (exact (ht9 (by assumption)).2.2.2) | rfl)) ?_
              rw [hW _ (show i * 4 + j < 32 by omega)]
              refine K0 i j (by omega) (by omega) rfl rfl (Int64.not_lt.mp (fun g => z14 (lg_lt.mpr g))) (lg_le.mp z20) _ ⟨h.1, h.2.1, fun q hq => ?_, h.2.2.2⟩
              rw [AL_at]
              by_cases e : q = i * 4 + j
              · rw [e, upL_at, va_eq]
              · rw [upL_ne e, va_ne e]
                exact hW q hq
            · intro z20
              refine b_59_28 _ _ _ (mi_tq_ok (ce := 15) (by decide +kernel) (by omega) (by omega)) ?_
              refine hw_Q (hc_out (by omega)) ?_
              first | exact K1 (fun g => Int64.not_lt.mpr g.2.2.1 (lg_lt.mp z14)) | exact K1 (fun g => z20 (lg_le.mpr g.2.2.2))
    · have hno := K1 (fun g => hz g.2.1)
      refine b_59_0 _ _ _ ?_
      refine s_isP (fun _ => ?_) (fun g => ?_)
      · refine b_59_4 _ _ _ ?_ ?_
        · intro z4
          first | (exact absurd z4 (by decide)) | (exact absurd (by decide) z4) | (exact absurd rfl z4) | (exact absurd z4 (of_nn (by omega))) | (exact absurd (of_np (by omega)) z4) | omega
        · intro z4
          refine b_59_7 _ _ _ ?_
          refine s_isT (fun g => absurd g hz) (fun g => ?_)
          refine b_59_11 _ _ _ ?_ ?_
          · intro z11
            refine b_59_28 _ _ _ (mi_tq_ok (ce := 15) (by decide +kernel) (by omega) (by omega)) ?_
            refine hw_Q (hc_out (by omega)) ?_
            exact hno
          · intro z11
            first | (exact absurd z11 (by decide)) | (exact absurd (by decide) z11) | (exact absurd rfl z11) | (exact absurd z11 (of_nn (by omega))) | (exact absurd (of_np (by omega)) z11) | omega
      · refine b_59_4 _ _ _ ?_ ?_
        · intro z4
          refine b_59_28 _ _ _ (mi_tq_ok (ce := 15) (by decide +kernel) (by omega) (by omega)) ?_
          refine hw_Q (hc_out (by omega)) ?_
          exact hno
        · intro z4
          first | (exact absurd z4 (by decide)) | (exact absurd (by decide) z4) | (exact absurd rfl z4) | (exact absurd z4 (of_nn (by omega))) | (exact absurd (of_np (by omega)) z4) | omega
  · have hno := K1 (fun g => hy g.1)
    refine b_59_0 _ _ _ ?_
    refine s_isP (fun g => absurd g hy) (fun g => ?_)
    refine b_59_4 _ _ _ ?_ ?_
    · intro z4
      refine b_59_28 _ _ _ (mi_tq_ok (ce := 15) (by decide +kernel) (by omega) (by omega)) ?_
      refine hw_Q (hc_out (by omega)) ?_
      exact hno
    · intro z4
      first | (exact absurd z4 (by decide)) | (exact absurd (by decide) z4) | (exact absurd rfl z4) | (exact absurd z4 (of_nn (by omega))) | (exact absurd (of_np (by omega)) z4) | omega
end
