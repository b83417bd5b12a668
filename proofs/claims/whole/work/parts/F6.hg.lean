/-! the first object: inputs -/
section
variable {d e n sl fd many : Nat} {a a' : mh_A} {f0 : Nat → mi_C} {Q : (Option Value ⊕ Nat) → mi_H → Prop} {oc : Nat → Int32} {wr x y z k1 k2 k3 k4 : Int32} {w : Nat → Int64} {ins : Nat → mv_I} {ev : mv_Z} {re : ma_R} {con : Option mx_K} {v : Int64} {I : mv_I}
theorem cIs.add (h : cIs a many ins) (hm : many < 16) (h0 : I.1 = 7 ∨ I.1 = 8 ∨ I.1 = 9) (h1 : k1 = Int32.ofNat (I.1 + 1)) (h2 : ¬ I.1 = 9 → k2 = Int32.ofNat I.2.1 ∧ I.2.1 ≤ 800) (h3 : I.1 = 7 → k3 = Int32.ofNat I.2.2.1 ∧ I.2.2.1 ≤ 800 ∧ k4 = Int32.ofNat I.2.2.2.1 ∧ I.2.2.2.1 ≤ 800) (hv : v = I.2.2.2.2) : cIs (cIa a 35 many k1 k2 k3 k4 v) (many + 1) (va_up ins many I) := by
  refine ⟨?_, by omega, fun j hj => ?_⟩
  · show a.I 6 35 5 + 1 = _
    rw [h.1, of_succ]
  · show _ ∧ upd (a.AI 6 35 0) many k1 j = _ ∧ (_ → upd (a.AI 6 35 1) many k2 j = _ ∧ _) ∧ (_ → upd (a.AI 6 35 2) many k3 j = _ ∧ _ ∧ upd (a.AI 6 35 3) many k4 j = _ ∧ _) ∧ vp_updL (a.AL 6 35 4) many v j = _
    by_cases e : j = many
    · rw [e, upd_at, upd_at, upd_at, upd_at, upL_at, va_eq]
      exact ⟨h0, h1, h2, h3, hv⟩
    · rw [upd_ne e, upd_ne e, upd_ne e, upd_ne e, upL_ne e, va_ne e]
      exact h.2.2 j (by omega)
theorem cX.add (h : cX a fd oc wr w many ins ev re con) (g : cIs (cIa a 35 many k1 k2 k3 k4 v) (many + 1) (va_up ins many I)) : cX (cIa a 35 many k1 k2 k3 k4 v) fd oc wr w (many + 1) (va_up ins many I) ev re con := by
  refine ⟨h.1, h.2.1, h.2.2.1, g, h.2.2.2.2.1, h.2.2.2.2.2.1, ?_⟩
  have hC := h.2.2.2.2.2.2
  cases con with
  | none => exact hC
  | some K => exact hC
theorem cq_room (hn : 575 ≤ n) (hN : n < 601000 ∧ sl ≤ 7293000) (h : cIs a many ins) (K1 : many = 16 → Q (.inr n) (n + 1, sl + 6, hc a (va_up f0 n (.inr (14, []))))) (K0 : many < 16 → Q (.inl none) (n, sl, hc a f0)) : mi_W d 64 0 (mi_en 1 [.ref 0]) [] (n, sl, hc a f0) Q := by
  have e5 : a.I 6 35 5 = Int32.ofNat many := h.1
  have h16 := h.2.1
  have hi := i_lt (y := 16) e5 (show (16 : Int32) = Int32.ofNat 16 from rfl) (by omega) (by omega)
  refine b_64_0 _ _ _ (by first | (exact hc_o (by first | assumption | (exact ⟨by decide, rfl⟩))) | assumption | (exact (hc_far (by omega)).trans (by assumption))) (by omega) (by first | rfl | assumption) (by first | (exact hc_o (by first | assumption | (exact ⟨by decide, rfl⟩))) | assumption | (exact (hc_far (by omega)).trans (by assumption))) (by omega) (by first | rfl | assumption) ?_ ?_
  · intro z0
    refine b_64_23 _ _ _ ?_
    exact K0 (hi.mp z0)
  · intro z0
    refine b_64_12 _ _ _ (mi_tq_ok (ce := 14) (by decide +kernel) (by omega) (by omega)) ?_
    refine hw_Q (hc_out (by omega)) ?_
    exact K1 (Nat.le_antisymm h16 (Nat.not_lt.mp (fun g => z0 (hi.mpr g))))
theorem cq_remind (hn : 575 ≤ n) (hN : n < 601000 ∧ sl ≤ 7293000) (h : cX a fd oc wr w many ins ev re con) (K1 : many = 16 → Q (.inr n) (n + 1, sl + 6, hc a (va_up f0 n (.inr (14, []))))) (K0 : many < 16 → ∀ a', cX a' fd oc wr w (many + 1) (va_up ins many (9, 0, 0, 0, 0)) ev re con → Q (.inl (some (.int (Int32.ofNat (many + 1))))) (n, sl, hc a' f0)) : mi_W (d + 1) 69 0 (mi_en 1 [.ref 0]) [] (n, sl, hc a f0) Q := by
  have e5 : a.I 6 35 5 = Int32.ofNat many := h.2.2.2.1.1
  refine b_69_0 _ _ _ (by first | (exact hc_o (by first | assumption | (exact ⟨by decide, rfl⟩))) | assumption | (exact (hc_far (by omega)).trans (by assumption))) (by omega) ?_
  refine cq_room hn hN h.2.2.2.1 (fun h0 => ?_) (fun h0 => ?_)
  · refine hx_c (by decide +kernel) (by omega) ?_
    exact K1 h0
  · refine b_69_4 _ _ _ (by first | (exact hc_o (by first | assumption | (exact ⟨by decide, rfl⟩))) | assumption | (exact (hc_far (by omega)).trans (by assumption))) (by omega) (by first | rfl | assumption) (by first | (exact hc_o (by first | assumption | (exact ⟨by decide, rfl⟩))) | assumption | (exact (hc_far (by omega)).trans (by assumption))) (by omega) ?_
    refine ci_add hn (Or.inl rfl) e5 h0 ?_
    refine b_69_17 _ _ _ ?_
    exact K0 h0 _ (h.add (h.2.2.2.1.add h0 (Or.inr (Or.inr rfl)) rfl (fun g => absurd rfl g) (fun g => absurd g (show ¬ (9 : Nat) = 7 by decide)) rfl))
theorem cq_choose (hn : 575 ≤ n) (hN : n < 601000 ∧ sl ≤ 7293000) (h : cX a fd oc wr w many ins ev re con) (K1 : ¬ mp_r x 0 7 → Q (.inr n) (n + 1, sl + 6, hc a (va_up f0 n (.inr (15, []))))) (K2 : mp_r x 0 7 → many = 16 → Q (.inr n) (n + 1, sl + 6, hc a (va_up f0 n (.inr (14, []))))) (K0 : ∀ i, i ≤ 7 → x = Int32.ofNat i → mp_r x 0 7 → many < 16 → ∀ a', cX a' fd oc wr w (many + 1) (va_up ins many (8, i, 0, 0, v)) ev re con → Q (.inl (some (.int (Int32.ofNat (many + 1))))) (n, sl, hc a' f0)) : mi_W (d + 1) 67 0 (mi_en 4 [.ref 0, .int x, .long v]) [] (n, sl, hc a f0) Q := by
  have e5 : a.I 6 35 5 = Int32.ofNat many := h.2.2.2.1.1
  have hz : x < 8 ↔ ¬ 7 < x := by rw [← Int32.not_le]; exact mp_lt8
  by_cases hx : mp_r x 0 7
  · obtain ⟨i, hi, rfl⟩ := (mp_of (m := 7) (by decide)).mp hx
    refine b_67_0 _ _ _ ?_ ?_
    · intro z0
      refine b_67_10 _ _ _ (mi_tq_ok (ce := 15) (by decide +kernel) (by omega) (by omega)) ?_
      refine hw_Q (hc_out (by omega)) ?_
      first | exact absurd z0 hx.1 | exact absurd (hz.mpr hx.2) z4
    · intro z0
      refine b_67_4 _ _ _ ?_ ?_
      · intro z4
        refine b_67_20 _ _ _ (by first | (exact hc_o (by first | assumption | (exact ⟨by decide, rfl⟩))) | assumption | (exact (hc_far (by omega)).trans (by assumption))) (by omega) ?_
        refine cq_room hn hN h.2.2.2.1 (fun h0 => ?_) (fun h0 => ?_)
        · refine hx_c (by decide +kernel) (by omega) ?_
          exact K2 hx h0
        · refine b_67_24 _ _ _ (by first | (exact hc_o (by first | assumption | (exact ⟨by decide, rfl⟩))) | assumption | (exact (hc_far (by omega)).trans (by assumption))) (by omega) (by first | rfl | assumption) (by first | (exact hc_o (by first | assumption | (exact ⟨by decide, rfl⟩))) | assumption | (exact (hc_far (by omega)).trans (by assumption))) (by omega) ?_
          refine ci_add hn (Or.inl rfl) e5 h0 ?_
          refine b_67_37 _ _ _ ?_
          exact K0 i hi rfl hx h0 _ (h.add (h.2.2.2.1.add h0 (Or.inr (Or.inl rfl)) rfl (fun _ => ⟨rfl, (show i ≤ 800 by omega)⟩) (fun g => absurd g (show ¬ (8 : Nat) = 7 by decide)) rfl))
      · intro z4
        refine b_67_10 _ _ _ (mi_tq_ok (ce := 15) (by decide +kernel) (by omega) (by omega)) ?_
        refine hw_Q (hc_out (by omega)) ?_
        first | exact absurd z0 hx.1 | exact absurd (hz.mpr hx.2) z4
  · have hno := K1 hx
    refine b_67_0 _ _ _ ?_ ?_
    · intro z0
      refine b_67_10 _ _ _ (mi_tq_ok (ce := 15) (by decide +kernel) (by omega) (by omega)) ?_
      refine hw_Q (hc_out (by omega)) ?_
      exact hno
    · intro z0
      refine b_67_4 _ _ _ ?_ ?_
      · intro z4
        exact absurd ⟨z0, hz.mp z4⟩ hx
      · intro z4
        refine b_67_10 _ _ _ (mi_tq_ok (ce := 15) (by decide +kernel) (by omega) (by omega)) ?_
        refine hw_Q (hc_out (by omega)) ?_
        exact hno
theorem cq_deposit (hn : 575 ≤ n) (hN : n < 601000 ∧ sl ≤ 7293000) (h : cX a fd oc wr w many ins ev re con) (K1 : ¬ (mp_r x 0 7 ∧ mp_r y 0 7 ∧ mp_r z 0 3) → Q (.inr n) (n + 1, sl + 6, hc a (va_up f0 n (.inr (15, []))))) (K2 : (mp_r x 0 7 ∧ mp_r y 0 7 ∧ mp_r z 0 3) → many = 16 → Q (.inr n) (n + 1, sl + 6, hc a (va_up f0 n (.inr (14, []))))) (K0 : ∀ i j k, i ≤ 7 → j ≤ 7 → k ≤ 3 → x = Int32.ofNat i → y = Int32.ofNat j → z = Int32.ofNat k → (mp_r x 0 7 ∧ mp_r y 0 7 ∧ mp_r z 0 3) → many < 16 → ∀ a', cX a' fd oc wr w (many + 1) (va_up ins many (7, i, j, k, v)) ev re con → Q (.inl (some (.int (Int32.ofNat (many + 1))))) (n, sl, hc a' f0)) : mi_W (d + 1) 63 0 (mi_en 6 [.ref 0, .int x, .int y, .int z, .long v]) [] (n, sl, hc a f0) Q := by
  have e5 : a.I 6 35 5 = Int32.ofNat many := h.2.2.2.1.1
  by_cases hx : mp_r x 0 7
  · by_cases hy : mp_r y 0 7
    · by_cases hz : mp_r z 0 3
      · obtain ⟨i, hi, rfl⟩ := (mp_of (m := 7) (by decide)).mp hx
        obtain ⟨j, hj, rfl⟩ := (mp_of (m := 7) (by decide)).mp hy
        obtain ⟨k, hk, rfl⟩ := (mp_of (m := 3) (by decide)).mp hz
        refine b_63_0 _ _ _ ?_
        refine s_isP (fun _ => ?_) (fun g => absurd hx g)
        refine b_63_4 _ _ _ ?_ ?_
        · intro z4
          first | (exact absurd z4 (by decide)) | (exact absurd (by decide) z4) | (exact absurd rfl z4) | (exact absurd z4 (of_nn (by omega))) | (exact absurd (of_np (by omega)) z4) | omega
        · intro z4
          refine b_63_7 _ _ _ ?_
          refine s_isP (fun _ => ?_) (fun g => absurd hy g)
          refine b_63_11 _ _ _ ?_ ?_
          · intro z11
            first | (exact absurd z11 (by decide)) | (exact absurd (by decide) z11) | (exact absurd rfl z11) | (exact absurd z11 (of_nn (by omega))) | (exact absurd (of_np (by omega)) z11) | omega
          · intro z11
            refine b_63_14 _ _ _ ?_
            refine s_isT (fun _ => ?_) (fun g => absurd hz g)
            refine b_63_18 _ _ _ ?_ ?_
            · intro z18
              refine b_63_31 _ _ _ (by first | (exact hc_o (by first | assumption | (exact ⟨by decide, rfl⟩))) | assumption | (exact (hc_far (by omega)).trans (by assumption))) (by omega) ?_
              refine cq_room hn hN h.2.2.2.1 (fun h0 => ?_) (fun h0 => ?_)
              · refine hx_c (by decide +kernel) (by omega) ?_
                exact K2 ⟨hx, hy, hz⟩ h0
              · refine b_63_35 _ _ _ (by first | (exact hc_o (by first | assumption | (exact ⟨by decide, rfl⟩))) | assumption | (exact (hc_far (by omega)).trans (by assumption))) (by omega) (by first | rfl | assumption) (by first | (exact hc_o (by first | assumption | (exact ⟨by decide, rfl⟩))) | assumption | (exact (hc_far (by omega)).trans (by assumption))) (by omega) ?_
                refine ci_add hn (Or.inl rfl) e5 h0 ?_
                refine b_63_49 _ _ _ ?_
                exact K0 i j k hi hj hk rfl rfl rfl ⟨hx, hy, hz⟩ h0 _ (h.add (h.2.2.2.1.add h0 (Or.inl rfl) rfl (fun _ => ⟨rfl, (show i ≤ 800 by omega)⟩) (fun _ => ⟨rfl, (show j ≤ 800 by omega), rfl, (show k ≤ 800 by omega)⟩) rfl))
            · intro z18
              first | (exact absurd z18 (by decide)) | (exact absurd (by decide) z18) | (exact absurd rfl z18) | (exact absurd z18 (of_nn (by omega))) | (exact absurd (of_np (by omega)) z18) | omega
      · have hno := K1 (fun g => hz g.2.2)
        refine b_63_0 _ _ _ ?_
        refine s_isP (fun _ => ?_) (fun g => ?_)
        · refine b_63_4 _ _ _ ?_ ?_
          · intro z4
            first | (exact absurd z4 (by decide)) | (exact absurd (by decide) z4) | (exact absurd rfl z4) | (exact absurd z4 (of_nn (by omega))) | (exact absurd (of_np (by omega)) z4) | omega
          · intro z4
            refine b_63_7 _ _ _ ?_
            refine s_isP (fun _ => ?_) (fun g => ?_)
            · refine b_63_11 _ _ _ ?_ ?_
              · intro z11
                first | (exact absurd z11 (by decide)) | (exact absurd (by decide) z11) | (exact absurd rfl z11) | (exact absurd z11 (of_nn (by omega))) | (exact absurd (of_np (by omega)) z11) | omega
              · intro z11
                refine b_63_14 _ _ _ ?_
                refine s_isT (fun g => absurd g hz) (fun g => ?_)
                refine b_63_18 _ _ _ ?_ ?_
                · intro z18
                  first | (exact absurd z18 (by decide)) | (exact absurd (by decide) z18) | (exact absurd rfl z18) | (exact absurd z18 (of_nn (by omega))) | (exact absurd (of_np (by omega)) z18) | omega
                · intro z18
                  refine b_63_21 _ _ _ (mi_tq_ok (ce := 15) (by decide +kernel) (by omega) (by omega)) ?_
                  refine hw_Q (hc_out (by omega)) ?_
                  exact hno
            · refine b_63_11 _ _ _ ?_ ?_
              · intro z11
                refine b_63_21 _ _ _ (mi_tq_ok (ce := 15) (by decide +kernel) (by omega) (by omega)) ?_
                refine hw_Q (hc_out (by omega)) ?_
                exact hno
              · intro z11
                first | (exact absurd z11 (by decide)) | (exact absurd (by decide) z11) | (exact absurd rfl z11) | (exact absurd z11 (of_nn (by omega))) | (exact absurd (of_np (by omega)) z11) | omega
        · refine b_63_4 _ _ _ ?_ ?_
          · intro z4
            refine b_63_21 _ _ _ (mi_tq_ok (ce := 15) (by decide +kernel) (by omega) (by omega)) ?_
            refine hw_Q (hc_out (by omega)) ?_
            exact hno
          · intro z4
            first | (exact absurd z4 (by decide)) | (exact absurd (by decide) z4) | (exact absurd rfl z4) | (exact absurd z4 (of_nn (by omega))) | (exact absurd (of_np (by omega)) z4) | omega
    · have hno := K1 (fun g => hy g.2.1)
      refine b_63_0 _ _ _ ?_
      refine s_isP (fun _ => ?_) (fun g => ?_)
      · refine b_63_4 _ _ _ ?_ ?_
        · intro z4
          first | (exact absurd z4 (by decide)) | (exact absurd (by decide) z4) | (exact absurd rfl z4) | (exact absurd z4 (of_nn (by omega))) | (exact absurd (of_np (by omega)) z4) | omega
        · intro z4
          refine b_63_7 _ _ _ ?_
          refine s_isP (fun g => absurd g hy) (fun g => ?_)
          refine b_63_11 _ _ _ ?_ ?_
          · intro z11
            refine b_63_21 _ _ _ (mi_tq_ok (ce := 15) (by decide +kernel) (by omega) (by omega)) ?_
            refine hw_Q (hc_out (by omega)) ?_
            exact hno
          · intro z11
            first | (exact absurd z11 (by decide)) | (exact absurd (by decide) z11) | (exact absurd rfl z11) | (exact absurd z11 (of_nn (by omega))) | (exact absurd (of_np (by omega)) z11) | omega
      · refine b_63_4 _ _ _ ?_ ?_
        · intro z4
          refine b_63_21 _ _ _ (mi_tq_ok (ce := 15) (by decide +kernel) (by omega) (by omega)) ?_
          refine hw_Q (hc_out (by omega)) ?_
          exact hno
        · intro z4
          first | (exact absurd z4 (by decide)) | (exact absurd (by decide) z4) | (exact absurd rfl z4) | (exact absurd z4 (of_nn (by omega))) | (exact absurd (of_np (by omega)) z4) | omega
  · have hno := K1 (fun g => hx g.1)
    refine b_63_0 _ _ _ ?_
    refine s_isP (fun g => absurd g hx) (fun g => ?_)
    refine b_63_4 _ _ _ ?_ ?_
    · intro z4
      refine b_63_21 _ _ _ (mi_tq_ok (ce := 15) (by decide +kernel) (by omega) (by omega)) ?_
      refine hw_Q (hc_out (by omega)) ?_
      exact hno
    · intro z4
      first | (exact absurd z4 (by decide)) | (exact absurd (by decide) z4) | (exact absurd rfl z4) | (exact absurd z4 (of_nn (by omega))) | (exact absurd (of_np (by omega)) z4) | omega
end
