/-! the second object's small public methods -/
section
variable {d e r n sl fd many : Nat} {b b' : mg_A} {f0 : Nat → mi_C} {Q : (Option Value ⊕ Nat) → mi_H → Prop} {oc : Nat → Int32} {wr x y z c : Int32} {w : Nat → Int64} {ins : Nat → mv_I} {ev : mv_Z} {re : ma_R} {con : Option mx_K} {v : Int64}
theorem gX.er (h : gX r n sl b fd oc wr w many ins ev re con) : gX r n sl (b.sX 0 x) fd oc wr w many ins ev re con := by
  obtain ⟨h1, h2, h3, h4, h5, h6, h7, h8, h9⟩ := h
  refine ⟨h1, h2, h3, h4, h5, h6, ?_, h8.to rfl rfl, h9⟩
  cases con with
  | none => exact h7
  | some K => exact h7
theorem mx_in1 {c : Nat} (hc : c ≤ 10000) : (0 ≤ y.toInt64 ∧ y.toInt64 ≤ (Int32.ofNat c - 1).toInt64) ↔ ∃ j, j < c ∧ y = Int32.ofNat j := by
  rw [mp_r64 (b := Int32.ofNat c - 1) (Int32.toInt_toInt64 _)]
  cases c with
  | zero =>
    constructor
    · intro h
      unfold mp_r at h
      rw [Int32.lt_iff_toInt_lt, Int32.lt_iff_toInt_lt, show (0 : Int32).toInt = 0 from rfl, show (Int32.ofNat 0 - 1).toInt = -1 from rfl] at h
      omega
    · rintro ⟨j, hj, -⟩
      exact absurd hj (Nat.not_lt_zero j)
  | succ c =>
    have e : Int32.ofNat (c + 1) - 1 = Int32.ofNat c := of_sub1 c
    rw [e, show mp_r y 0 (Int32.ofNat c) ↔ (¬ y < 0 ∧ y < Int32.ofNat (c + 1)) from ?_, mx_ix (by omega)]
    unfold mp_r
    rw [Int32.lt_iff_toInt_lt, Int32.lt_iff_toInt_lt, Int32.lt_iff_toInt_lt, Int32.toInt_ofNat_of_lt (by omega), Int32.toInt_ofNat_of_lt (by omega)]
    omega
theorem gRes.fl (h : gRes b re) : b.I 505 75 = Int32.ofNat (mx_fl re) ∧ mx_fl re ≤ 104 ∧ ∀ j, j < mx_fl re → b.I 564 j = Int32.ofNat (re.2.2[j]?.getD (0, 0, 0)).1 ∧ b.J 567 j = (re.2.2[j]?.getD (0, 0, 0)).2.1 ∧ b.I 565 j = mz_lk (re.2.2[j]?.getD (0, 0, 0)).2.2 := by
  unfold mx_fl
  by_cases h1 : re.1 = 1
  · rw [if_pos h1]
    obtain ⟨g1, g2, g3⟩ := h.2.2.1 h1
    refine ⟨g1, g2, fun j hj => ?_⟩
    have e := List.getElem?_eq_getElem hj
    rw [e]
    exact g3 j _ e
  · rw [if_neg h1]
    exact ⟨h.2.1 h1, by omega, fun j hj => absurd hj (Nat.not_lt_zero j)⟩
theorem g_fl0 (hn : 575 ≤ n) (h0 : b.I 505 0 = 0) (K : Q (.inl (some (.int 0))) (n, sl, hd b f0)) : mi_W d 140 0 (mi_en 3 [.ref 505, .int 0, .int c]) [] (n, sl, hd b f0) Q := by
  refine b_140_0 _ _ _ ?_ ?_
  · intro z0
    refine b_140_16 _ _ _ (by first | (exact hd_9) | assumption) (by omega) (by exact mL_get (by decide)) ?_ ?_
    · intro z16
      refine b_140_27 _ _ _ ?_
      refine b_140_28 _ _ _ (by first | assumption | (exact mL_get (by decide)) | (rw [mL_len]; decide) | (simp only [mL_set]; exact mL_get (by decide)) | (simp only [mL_set, mL_len]; decide) | (exact va_eq) | (exact (va_ne (by omega)).trans (by assumption)) | (exact (va_ne (by omega)).trans va_eq) | (exact (va_ne (by omega)).trans ((va_ne (by omega)).trans (by assumption))) | (exact (va_ne (by omega)).trans ((va_ne (by omega)).trans ((va_ne (by omega)).trans (by assumption)))) | rfl | (exact Or.inl rfl) | (exact Or.inr rfl) | omega | (exact Nat.le_of_ble_eq_true rfl) | decide | (exact ⟨by decide, rfl, by decide⟩)) ?_
      exact K
    · intro z16
      exact absurd h0 z16
  · intro z0
    first | (exact absurd z0 (by decide)) | (exact absurd (by decide) z0) | (exact absurd rfl z0) | (exact absurd z0 (of_nn (by omega))) | (exact absurd (of_np (by omega)) z0) | omega
theorem g_fl1 (hn : 575 ≤ n) (h0 : b.I 505 0 = 0) (hc : ¬ c = 0) (K : Q (.inl (some (.int 1))) (n, sl, hd (b.sX 0 c) f0)) : mi_W d 140 0 (mi_en 3 [.ref 505, .int 1, .int c]) [] (n, sl, hd b f0) Q := by
  refine b_140_0 _ _ _ ?_ ?_
  · intro z0
    first | (exact absurd z0 (by decide)) | (exact absurd (by decide) z0) | (exact absurd rfl z0) | (exact absurd z0 (of_nn (by omega))) | (exact absurd (of_np (by omega)) z0) | omega
  · intro z0
    refine b_140_4 _ _ _ (by first | (exact hd_9) | assumption) (by omega) (by exact mL_get (by decide)) ?_ ?_
    · intro z4
      exact absurd h0 z4
    · intro z4
      refine b_140_11 _ _ _ (by first | (exact hd_9) | assumption) (by omega) (by rw [mL_len]; decide) ?_
      refine hw_W (gw_X (by decide)) ?_
      refine b_140_16 _ _ _ (by first | (exact hd_9) | assumption) (by omega) (by exact mL_get (by decide)) ?_ ?_
      · intro z16
        exact absurd (show c = 0 from z16) hc
      · intro z16
        refine b_140_23 _ _ _ ?_
        refine b_140_28 _ _ _ (by first | assumption | (exact mL_get (by decide)) | (rw [mL_len]; decide) | (simp only [mL_set]; exact mL_get (by decide)) | (simp only [mL_set, mL_len]; decide) | (exact va_eq) | (exact (va_ne (by omega)).trans (by assumption)) | (exact (va_ne (by omega)).trans va_eq) | (exact (va_ne (by omega)).trans ((va_ne (by omega)).trans (by assumption))) | (exact (va_ne (by omega)).trans ((va_ne (by omega)).trans ((va_ne (by omega)).trans (by assumption)))) | rfl | (exact Or.inl rfl) | (exact Or.inr rfl) | omega | (exact Nat.le_of_ble_eq_true rfl) | decide | (exact ⟨by decide, rfl, by decide⟩)) ?_
        exact K
theorem gq_thrown (hn : 575 ≤ n) (h0 : b.I 505 0 = x) (K : Q (.inl (some (.int x))) (n, sl, hd b f0)) : mi_W d 138 0 (mi_en 1 [.ref 505]) [] (n, sl, hd b f0) Q := by
  refine b_138_0 _ _ _ (by first | (exact hd_9) | assumption) (by omega) (by exact mL_get (by decide)) ?_
  rw [h0]
  exact K
theorem gq_wrong (h : gX r n sl b fd oc wr w many ins ev re con) (K : ∀ b', gX r n sl b' fd oc wr w many ins ev re con → Q (.inl (some (.int wr))) (n, sl, hd b' f0)) : mi_W d 171 0 (mi_en 1 [.ref 505]) [] (n, sl, hd b f0) Q := by
  have hn := h.2.2.2.2.2.2.2.1.nn.1
  have k := K _ (h.er (x := 0))
  rw [← h.2.1] at k
  refine b_171_0 _ _ _ (by first | (exact hd_9) | assumption) (by omega) (by rw [mL_len]; decide) (by first | (exact (congrFun (gw_X (by decide)) _).trans (hd_9)) | assumption) (by omega) (by exact mL_get (by decide)) ?_
  refine hw_Q (gw_X (by decide)) ?_
  exact k
theorem gq_paid (h : gX r n sl b fd oc wr w many ins ev re con) (K1 : (¬ ∃ j, j < ev.ps.1 ∧ y = Int32.ofNat j) → ∀ b', gX r n sl b' fd oc wr w many ins ev re con → b'.I 505 0 = 1 → Q (.inl (some (.long 0))) (n, sl, hd b' f0)) (K0 : ∀ j, j < ev.ps.1 → y = Int32.ofNat j → ∀ b', gX r n sl b' fd oc wr w many ins ev re con → b'.I 505 0 = 0 → Q (.inl (some (.long (ev.ps.2 j).2.2.2))) (n, sl, hd b' f0)) : mi_W (d + 1) 192 0 (mi_en 2 [.ref 505, .int y]) [] (n, sl, hd b f0) Q := by
  have hn := h.2.2.2.2.2.2.2.1.nn.1
  have e7 : b.I 505 66 = Int32.ofNat ev.ps.1 := h.2.2.2.2.1.2.1
  have h7 := h.2.2.2.2.1.2.2.1
  have hv := h.2.2.2.2.1.2.2.2
  have hi := mx_in1 (y := y) (c := ev.ps.1) (by omega)
  rw [← e7] at hi
  by_cases hj : ∃ j, j < ev.ps.1 ∧ y = Int32.ofNat j
  · have hg := hi.mpr hj
    obtain ⟨j, hj, rfl⟩ := hj
    have hix := ix_of (w := j) (m := 2000) (by omega) (by omega)
    refine b_192_0 _ _ _ (by first | (exact hd_9) | assumption) (by omega) (by rw [mL_len]; decide) (by first | (exact (congrFun (gw_X (by decide)) _).trans (hd_9)) | assumption) (by omega) (by exact mL_get (by decide)) ?_
    refine hw_W (gw_X (by decide)) ?_
    refine s_in (fun _ => ?_) (fun g => ?_)
    · refine b_192_19 _ _ _ ?_ ?_
      · intro z19
        refine b_192_26 _ _ _ ?_
        refine b_192_27 _ _ _ (by first | (exact hd_9) | assumption) (by omega) ?_
        refine g_fl0 hn rfl ?_
        refine b_192_31 _ _ _ ?_ ?_
        · intro z31
          refine b_192_38 _ _ _ _ _ _ (by first | (exact hd_9) | assumption) (by omega) (by exact mL_get (by decide)) (by first | (exact hd_J (by omega) rfl) | (exact hd_L1 (by assumption)) | (exact hd_L2 (by assumption)) | (exact hd_L3 (by assumption)) | assumption) (by omega) (by first | assumption | (exact ix_of (by omega) (by omega)) | (exact ⟨by decide, rfl, by decide⟩)) ?_
          refine b_192_44 _ _ _ ?_
          show Q (.inl (some (.long (b.J 561 j)))) _
          rw [(hv j hj).2.2.2]
          exact K0 j hj rfl _ h.er rfl
        · intro z31
          first | (exact absurd z31 (by decide)) | (exact absurd (by decide) z31) | (exact absurd rfl z31) | (exact absurd z31 (of_nn (by omega))) | (exact absurd (of_np (by omega)) z31) | omega
      · intro z19
        first | (exact absurd z19 (by decide)) | (exact absurd (by decide) z19) | (exact absurd rfl z19) | (exact absurd z19 (of_nn (by omega))) | (exact absurd (of_np (by omega)) z19) | omega
    · exact absurd hg g
  · have hg := fun g => hj (hi.mp g)
    refine b_192_0 _ _ _ (by first | (exact hd_9) | assumption) (by omega) (by rw [mL_len]; decide) (by first | (exact (congrFun (gw_X (by decide)) _).trans (hd_9)) | assumption) (by omega) (by exact mL_get (by decide)) ?_
    refine hw_W (gw_X (by decide)) ?_
    refine s_in (fun g => ?_) (fun g => ?_)
    · exact absurd g hg
    · refine b_192_19 _ _ _ ?_ ?_
      · intro z19
        first | (exact absurd z19 (by decide)) | (exact absurd (by decide) z19) | (exact absurd rfl z19) | (exact absurd z19 (of_nn (by omega))) | (exact absurd (of_np (by omega)) z19) | omega
      · intro z19
        refine b_192_22 _ _ _ ?_
        refine b_192_27 _ _ _ (by first | (exact hd_9) | assumption) (by omega) ?_
        refine g_fl1 hn rfl (by decide) ?_
        refine b_192_31 _ _ _ ?_ ?_
        · intro z31
          first | (exact absurd z31 (by decide)) | (exact absurd (by decide) z31) | (exact absurd rfl z31) | (exact absurd z31 (of_nn (by omega))) | (exact absurd (of_np (by omega)) z31) | omega
        · intro z31
          refine b_192_34 _ _ _ ?_
          refine b_192_44 _ _ _ ?_
          exact K1 hj _ h.er.er rfl
theorem gq_told (h : gX r n sl b fd oc wr w many ins ev re con) (K1 : (¬ ∃ i, i ≤ 4 ∧ x = Int32.ofNat i) → ∀ b', gX r n sl b' fd oc wr w many ins ev re con → b'.I 505 0 = 1 → Q (.inl (some (.int 0))) (n, sl, hd b' f0)) (K2 : ∀ i, i ≤ 4 → x = Int32.ofNat i → (¬ ∃ j, j < mx_cn ev i ∧ y = Int32.ofNat j) → ∀ b', gX r n sl b' fd oc wr w many ins ev re con → b'.I 505 0 = 2 → Q (.inl (some (.int 0))) (n, sl, hd b' f0)) (K0 : ∀ i j, i ≤ 4 → x = Int32.ofNat i → j < mx_cn ev i → y = Int32.ofNat j → ∀ b', gX r n sl b' fd oc wr w many ins ev re con → b'.I 505 0 = 0 → Q (.inl (some (.int (mx_tv ev i j)))) (n, sl, hd b' f0)) : mi_W (d + 1) 191 0 (mi_en 3 [.ref 505, .int x, .int y]) [] (n, sl, hd b f0) Q := by
  have hn := h.2.2.2.2.2.2.2.1.nn.1
  have e6 : b.I 505 65 = Int32.ofNat ev.ws.1 := h.2.2.2.2.1.1.1
  have h6 := h.2.2.2.2.1.1.2.1
  have hv6 := h.2.2.2.2.1.1.2.2
  have e7 : b.I 505 66 = Int32.ofNat ev.ps.1 := h.2.2.2.2.1.2.1
  have h7 := h.2.2.2.2.1.2.2.1
  have hv7 := h.2.2.2.2.1.2.2.2
  have hi6 := mx_in1 (y := y) (c := ev.ws.1) (by omega)
  have hi7 := mx_in1 (y := y) (c := ev.ps.1) (by omega)
  rw [← e6] at hi6
  rw [← e7] at hi7
  have hx4 := mp_r64 (p := x) (b := 4) (b' := 4) rfl
  have hxo := mp_of (p := x) (m := 4) (by decide)
  by_cases hx : ∃ i, i ≤ 4 ∧ x = Int32.ofNat i
  · have hxg := hx4.mpr (hxo.mpr hx)
    obtain ⟨i, hi4, rfl⟩ := hx
    rcases (by omega : i = 0 ∨ i = 1 ∨ i = 2 ∨ i = 3 ∨ i = 4) with rfl | rfl | rfl | rfl | rfl
    · show mi_W (d + 1) 191 0 (mi_en 3 [.ref 505, .int 0, .int y]) [] (n, sl, hd b f0) Q
      by_cases hj : ∃ j, j < mx_cn ev 0 ∧ y = Int32.ofNat j
      · have hg := hi6.mpr hj
        obtain ⟨j, hj, rfl⟩ := hj
        have hjj : j < ev.ws.1 := hj
        have hix := ix_of (w := j) (m := 2000) (by omega) (by omega)
        refine b_191_0 _ _ _ (by first | (exact hd_9) | assumption) (by omega) (by rw [mL_len]; decide) ?_
        refine hw_W (gw_X (by decide)) ?_
        refine s_in (fun _ => ?_) (fun g => ?_)
        · refine b_191_15 _ _ _ ?_ ?_
          · intro z15
            refine b_191_22 _ _ _ ?_
            refine b_191_23 _ _ _ (by first | (exact hd_9) | assumption) (by omega) ?_
            refine g_fl0 hn rfl ?_
            refine b_191_27 _ _ _ ?_ ?_
            · intro z27
              first | (exact absurd z27 (by decide)) | (exact absurd (by decide) z27) | (exact absurd rfl z27) | (exact absurd z27 (of_nn (by omega))) | (exact absurd (of_np (by omega)) z27) | omega
            · intro z27
              refine b_191_30 _ _ _ ?_ ?_
              · intro z30
                first | (exact absurd z30 (by decide)) | (exact absurd (by decide) z30) | (exact absurd rfl z30) | (exact absurd z30 (of_nn (by omega))) | (exact absurd (of_np (by omega)) z30) | omega
              · intro z30
                refine b_191_39 _ _ _ (by first | (exact hd_9) | assumption) (by omega) (by exact mL_get (by decide)) ?_
                refine b_191_50 _ _ _ ?_
                refine s_in (fun _ => ?_) (fun g => ?_)
                · refine b_191_56 _ _ _ ?_ ?_
                  · intro z56
                    refine b_191_63 _ _ _ ?_
                    refine b_191_64 _ _ _ (by first | (exact hd_9) | assumption) (by omega) ?_
                    refine g_fl0 hn rfl ?_
                    refine b_191_68 _ _ _ ?_ ?_
                    · intro z68
                      refine b_191_73 _ _ _ ?_ ?_
                      · intro z73
                        first | (exact absurd z73 (by decide)) | (exact absurd (by decide) z73) | (exact absurd rfl z73) | (exact absurd z73 (of_nn (by omega))) | (exact absurd (of_np (by omega)) z73) | omega
                      · intro z73
                        refine b_191_77 _ _ _ _ _ _ (by first | (exact hd_9) | assumption) (by omega) (by exact mL_get (by decide)) (by first | (exact hd_I (by omega) rfl) | assumption) (Or.inl (by omega)) (by first | assumption | (exact ix_of (by omega) (by omega)) | (exact ⟨by decide, rfl, by decide⟩)) ?_
                        refine b_191_134 _ _ _ ?_
                        show Q (.inl (some (.int (b.I 556 j)))) _
                        rw [(hv6 j hjj).1]
                        exact K0 0 j (by decide) rfl hj rfl _ h.er rfl
                    · intro z68
                      first | (exact absurd z68 (by decide)) | (exact absurd (by decide) z68) | (exact absurd rfl z68) | (exact absurd z68 (of_nn (by omega))) | (exact absurd (of_np (by omega)) z68) | omega
                  · intro z56
                    first | (exact absurd z56 (by decide)) | (exact absurd (by decide) z56) | (exact absurd rfl z56) | (exact absurd z56 (of_nn (by omega))) | (exact absurd (of_np (by omega)) z56) | omega
                · exact absurd hg g
          · intro z15
            first | (exact absurd z15 (by decide)) | (exact absurd (by decide) z15) | (exact absurd rfl z15) | (exact absurd z15 (of_nn (by omega))) | (exact absurd (of_np (by omega)) z15) | omega
        · exact absurd hxg g
      · have hg := fun g => hj (hi6.mp g)
        refine b_191_0 _ _ _ (by first | (exact hd_9) | assumption) (by omega) (by rw [mL_len]; decide) ?_
        refine hw_W (gw_X (by decide)) ?_
        refine s_in (fun _ => ?_) (fun g => ?_)
        · refine b_191_15 _ _ _ ?_ ?_
          · intro z15
            refine b_191_22 _ _ _ ?_
            refine b_191_23 _ _ _ (by first | (exact hd_9) | assumption) (by omega) ?_
            refine g_fl0 hn rfl ?_
            refine b_191_27 _ _ _ ?_ ?_
            · intro z27
              first | (exact absurd z27 (by decide)) | (exact absurd (by decide) z27) | (exact absurd rfl z27) | (exact absurd z27 (of_nn (by omega))) | (exact absurd (of_np (by omega)) z27) | omega
            · intro z27
              refine b_191_30 _ _ _ ?_ ?_
              · intro z30
                first | (exact absurd z30 (by decide)) | (exact absurd (by decide) z30) | (exact absurd rfl z30) | (exact absurd z30 (of_nn (by omega))) | (exact absurd (of_np (by omega)) z30) | omega
              · intro z30
                refine b_191_39 _ _ _ (by first | (exact hd_9) | assumption) (by omega) (by exact mL_get (by decide)) ?_
                refine b_191_50 _ _ _ ?_
                refine s_in (fun g => ?_) (fun _ => ?_)
                · exact absurd g hg
                · refine b_191_56 _ _ _ ?_ ?_
                  · intro z56
                    first | (exact absurd z56 (by decide)) | (exact absurd (by decide) z56) | (exact absurd rfl z56) | (exact absurd z56 (of_nn (by omega))) | (exact absurd (of_np (by omega)) z56) | omega
                  · intro z56
                    refine b_191_59 _ _ _ ?_
                    refine b_191_64 _ _ _ (by first | (exact hd_9) | assumption) (by omega) ?_
                    refine g_fl1 hn rfl (by decide) ?_
                    refine b_191_68 _ _ _ ?_ ?_
                    · intro z68
                      first | (exact absurd z68 (by decide)) | (exact absurd (by decide) z68) | (exact absurd rfl z68) | (exact absurd z68 (of_nn (by omega))) | (exact absurd (of_np (by omega)) z68) | omega
                    · intro z68
                      refine b_191_71 _ _ _ ?_
                      exact K2 0 (by decide) rfl hj _ h.er.er rfl
          · intro z15
            first | (exact absurd z15 (by decide)) | (exact absurd (by decide) z15) | (exact absurd rfl z15) | (exact absurd z15 (of_nn (by omega))) | (exact absurd (of_np (by omega)) z15) | omega
        · exact absurd hxg g
    · show mi_W (d + 1) 191 0 (mi_en 3 [.ref 505, .int 1, .int y]) [] (n, sl, hd b f0) Q
      by_cases hj : ∃ j, j < mx_cn ev 1 ∧ y = Int32.ofNat j
      · have hg := hi6.mpr hj
        obtain ⟨j, hj, rfl⟩ := hj
        have hjj : j < ev.ws.1 := hj
        have hix := ix_of (w := j) (m := 2000) (by omega) (by omega)
        refine b_191_0 _ _ _ (by first | (exact hd_9) | assumption) (by omega) (by rw [mL_len]; decide) ?_
        refine hw_W (gw_X (by decide)) ?_
        refine s_in (fun _ => ?_) (fun g => ?_)
        · refine b_191_15 _ _ _ ?_ ?_
          · intro z15
            refine b_191_22 _ _ _ ?_
            refine b_191_23 _ _ _ (by first | (exact hd_9) | assumption) (by omega) ?_
            refine g_fl0 hn rfl ?_
            refine b_191_27 _ _ _ ?_ ?_
            · intro z27
              first | (exact absurd z27 (by decide)) | (exact absurd (by decide) z27) | (exact absurd rfl z27) | (exact absurd z27 (of_nn (by omega))) | (exact absurd (of_np (by omega)) z27) | omega
            · intro z27
              refine b_191_30 _ _ _ ?_ ?_
              · intro z30
                first | (exact absurd z30 (by decide)) | (exact absurd (by decide) z30) | (exact absurd rfl z30) | (exact absurd z30 (of_nn (by omega))) | (exact absurd (of_np (by omega)) z30) | omega
              · intro z30
                refine b_191_39 _ _ _ (by first | (exact hd_9) | assumption) (by omega) (by exact mL_get (by decide)) ?_
                refine b_191_50 _ _ _ ?_
                refine s_in (fun _ => ?_) (fun g => ?_)
                · refine b_191_56 _ _ _ ?_ ?_
                  · intro z56
                    refine b_191_63 _ _ _ ?_
                    refine b_191_64 _ _ _ (by first | (exact hd_9) | assumption) (by omega) ?_
                    refine g_fl0 hn rfl ?_
                    refine b_191_68 _ _ _ ?_ ?_
                    · intro z68
                      refine b_191_73 _ _ _ ?_ ?_
                      · intro z73
                        refine b_191_86 _ _ _ ?_ ?_
                        · intro z86
                          first | (exact absurd z86 (by decide)) | (exact absurd (by decide) z86) | (exact absurd rfl z86) | (exact absurd z86 (of_nn (by omega))) | (exact absurd (of_np (by omega)) z86) | omega
                        · intro z86
                          refine b_191_91 _ _ _ _ _ _ (by first | (exact hd_9) | assumption) (by omega) (by exact mL_get (by decide)) (by first | (exact hd_I (by omega) rfl) | assumption) (Or.inl (by omega)) (by first | assumption | (exact ix_of (by omega) (by omega)) | (exact ⟨by decide, rfl, by decide⟩)) ?_
                          refine b_191_134 _ _ _ ?_
                          show Q (.inl (some (.int (b.I 557 j)))) _
                          rw [(hv6 j hjj).2]
                          exact K0 1 j (by decide) rfl hj rfl _ h.er rfl
                      · intro z73
                        first | (exact absurd z73 (by decide)) | (exact absurd (by decide) z73) | (exact absurd rfl z73) | (exact absurd z73 (of_nn (by omega))) | (exact absurd (of_np (by omega)) z73) | omega
                    · intro z68
                      first | (exact absurd z68 (by decide)) | (exact absurd (by decide) z68) | (exact absurd rfl z68) | (exact absurd z68 (of_nn (by omega))) | (exact absurd (of_np (by omega)) z68) | omega
                  · intro z56
                    first | (exact absurd z56 (by decide)) | (exact absurd (by decide) z56) | (exact absurd rfl z56) | (exact absurd z56 (of_nn (by omega))) | (exact absurd (of_np (by omega)) z56) | omega
                · exact absurd hg g
          · intro z15
            first | (exact absurd z15 (by decide)) | (exact absurd (by decide) z15) | (exact absurd rfl z15) | (exact absurd z15 (of_nn (by omega))) | (exact absurd (of_np (by omega)) z15) | omega
        · exact absurd hxg g
      · have hg := fun g => hj (hi6.mp g)
        refine b_191_0 _ _ _ (by first | (exact hd_9) | assumption) (by omega) (by rw [mL_len]; decide) ?_
        refine hw_W (gw_X (by decide)) ?_
        refine s_in (fun _ => ?_) (fun g => ?_)
        · refine b_191_15 _ _ _ ?_ ?_
          · intro z15
            refine b_191_22 _ _ _ ?_
            refine b_191_23 _ _ _ (by first | (exact hd_9) | assumption) (by omega) ?_
            refine g_fl0 hn rfl ?_
            refine b_191_27 _ _ _ ?_ ?_
            · intro z27
              first | (exact absurd z27 (by decide)) | (exact absurd (by decide) z27) | (exact absurd rfl z27) | (exact absurd z27 (of_nn (by omega))) | (exact absurd (of_np (by omega)) z27) | omega
            · intro z27
              refine b_191_30 _ _ _ ?_ ?_
              · intro z30
                first | (exact absurd z30 (by decide)) | (exact absurd (by decide) z30) | (exact absurd rfl z30) | (exact absurd z30 (of_nn (by omega))) | (exact absurd (of_np (by omega)) z30) | omega
              · intro z30
                refine b_191_39 _ _ _ (by first | (exact hd_9) | assumption) (by omega) (by exact mL_get (by decide)) ?_
                refine b_191_50 _ _ _ ?_
                refine s_in (fun g => ?_) (fun _ => ?_)
                · exact absurd g hg
                · refine b_191_56 _ _ _ ?_ ?_
                  · intro z56
                    first | (exact absurd z56 (by decide)) | (exact absurd (by decide) z56) | (exact absurd rfl z56) | (exact absurd z56 (of_nn (by omega))) | (exact absurd (of_np (by omega)) z56) | omega
                  · intro z56
                    refine b_191_59 _ _ _ ?_
                    refine b_191_64 _ _ _ (by first | (exact hd_9) | assumption) (by omega) ?_
                    refine g_fl1 hn rfl (by decide) ?_
                    refine b_191_68 _ _ _ ?_ ?_
                    · intro z68
                      first | (exact absurd z68 (by decide)) | (exact absurd (by decide) z68) | (exact absurd rfl z68) | (exact absurd z68 (of_nn (by omega))) | (exact absurd (of_np (by omega)) z68) | omega
                    · intro z68
                      refine b_191_71 _ _ _ ?_
                      exact K2 1 (by decide) rfl hj _ h.er.er rfl
          · intro z15
            first | (exact absurd z15 (by decide)) | (exact absurd (by decide) z15) | (exact absurd rfl z15) | (exact absurd z15 (of_nn (by omega))) | (exact absurd (of_np (by omega)) z15) | omega
        · exact absurd hxg g
    · show mi_W (d + 1) 191 0 (mi_en 3 [.ref 505, .int 2, .int y]) [] (n, sl, hd b f0) Q
      by_cases hj : ∃ j, j < mx_cn ev 2 ∧ y = Int32.ofNat j
      · have hg := hi7.mpr hj
        obtain ⟨j, hj, rfl⟩ := hj
        have hjj : j < ev.ps.1 := hj
        have hix := ix_of (w := j) (m := 2000) (by omega) (by omega)
        refine b_191_0 _ _ _ (by first | (exact hd_9) | assumption) (by omega) (by rw [mL_len]; decide) ?_
        refine hw_W (gw_X (by decide)) ?_
        refine s_in (fun _ => ?_) (fun g => ?_)
        · refine b_191_15 _ _ _ ?_ ?_
          · intro z15
            refine b_191_22 _ _ _ ?_
            refine b_191_23 _ _ _ (by first | (exact hd_9) | assumption) (by omega) ?_
            refine g_fl0 hn rfl ?_
            refine b_191_27 _ _ _ ?_ ?_
            · intro z27
              first | (exact absurd z27 (by decide)) | (exact absurd (by decide) z27) | (exact absurd rfl z27) | (exact absurd z27 (of_nn (by omega))) | (exact absurd (of_np (by omega)) z27) | omega
            · intro z27
              refine b_191_30 _ _ _ ?_ ?_
              · intro z30
                refine b_191_46 _ _ _ (by first | (exact hd_9) | assumption) (by omega) (by exact mL_get (by decide)) ?_
                refine b_191_50 _ _ _ ?_
                refine s_in (fun _ => ?_) (fun g => ?_)
                · refine b_191_56 _ _ _ ?_ ?_
                  · intro z56
                    refine b_191_63 _ _ _ ?_
                    refine b_191_64 _ _ _ (by first | (exact hd_9) | assumption) (by omega) ?_
                    refine g_fl0 hn rfl ?_
                    refine b_191_68 _ _ _ ?_ ?_
                    · intro z68
                      refine b_191_73 _ _ _ ?_ ?_
                      · intro z73
                        refine b_191_86 _ _ _ ?_ ?_
                        · intro z86
                          refine b_191_100 _ _ _ ?_ ?_
                          · intro z100
                            first | (exact absurd z100 (by decide)) | (exact absurd (by decide) z100) | (exact absurd rfl z100) | (exact absurd z100 (of_nn (by omega))) | (exact absurd (of_np (by omega)) z100) | omega
                          · intro z100
                            refine b_191_105 _ _ _ _ _ _ (by first | (exact hd_9) | assumption) (by omega) (by exact mL_get (by decide)) (by first | (exact hd_I (by omega) rfl) | assumption) (Or.inl (by omega)) (by first | assumption | (exact ix_of (by omega) (by omega)) | (exact ⟨by decide, rfl, by decide⟩)) ?_
                            refine b_191_134 _ _ _ ?_
                            show Q (.inl (some (.int (b.I 558 j)))) _
                            rw [(hv7 j hjj).1]
                            exact K0 2 j (by decide) rfl hj rfl _ h.er rfl
                        · intro z86
                          first | (exact absurd z86 (by decide)) | (exact absurd (by decide) z86) | (exact absurd rfl z86) | (exact absurd z86 (of_nn (by omega))) | (exact absurd (of_np (by omega)) z86) | omega
                      · intro z73
                        first | (exact absurd z73 (by decide)) | (exact absurd (by decide) z73) | (exact absurd rfl z73) | (exact absurd z73 (of_nn (by omega))) | (exact absurd (of_np (by omega)) z73) | omega
                    · intro z68
                      first | (exact absurd z68 (by decide)) | (exact absurd (by decide) z68) | (exact absurd rfl z68) | (exact absurd z68 (of_nn (by omega))) | (exact absurd (of_np (by omega)) z68) | omega
                  · intro z56
                    first | (exact absurd z56 (by decide)) | (exact absurd (by decide) z56) | (exact absurd rfl z56) | (exact absurd z56 (of_nn (by omega))) | (exact absurd (of_np (by omega)) z56) | omega
                · exact absurd hg g
              · intro z30
                first | (exact absurd z30 (by decide)) | (exact absurd (by decide) z30) | (exact absurd rfl z30) | (exact absurd z30 (of_nn (by omega))) | (exact absurd (of_np (by omega)) z30) | omega
          · intro z15
            first | (exact absurd z15 (by decide)) | (exact absurd (by decide) z15) | (exact absurd rfl z15) | (exact absurd z15 (of_nn (by omega))) | (exact absurd (of_np (by omega)) z15) | omega
        · exact absurd hxg g
      · have hg := fun g => hj (hi7.mp g)
        refine b_191_0 _ _ _ (by first | (exact hd_9) | assumption) (by omega) (by rw [mL_len]; decide) ?_
        refine hw_W (gw_X (by decide)) ?_
        refine s_in (fun _ => ?_) (fun g => ?_)
        · refine b_191_15 _ _ _ ?_ ?_
          · intro z15
            refine b_191_22 _ _ _ ?_
            refine b_191_23 _ _ _ (by first | (exact hd_9) | assumption) (by omega) ?_
            refine g_fl0 hn rfl ?_
            refine b_191_27 _ _ _ ?_ ?_
            · intro z27
              first | (exact absurd z27 (by decide)) | (exact absurd (by decide) z27) | (exact absurd rfl z27) | (exact absurd z27 (of_nn (by omega))) | (exact absurd (of_np (by omega)) z27) | omega
            · intro z27
              refine b_191_30 _ _ _ ?_ ?_
              · intro z30
                refine b_191_46 _ _ _ (by first | (exact hd_9) | assumption) (by omega) (by exact mL_get (by decide)) ?_
                refine b_191_50 _ _ _ ?_
                refine s_in (fun g => ?_) (fun _ => ?_)
                · exact absurd g hg
                · refine b_191_56 _ _ _ ?_ ?_
                  · intro z56
                    first | (exact absurd z56 (by decide)) | (exact absurd (by decide) z56) | (exact absurd rfl z56) | (exact absurd z56 (of_nn (by omega))) | (exact absurd (of_np (by omega)) z56) | omega
                  · intro z56
                    refine b_191_59 _ _ _ ?_
                    refine b_191_64 _ _ _ (by first | (exact hd_9) | assumption) (by omega) ?_
                    refine g_fl1 hn rfl (by decide) ?_
                    refine b_191_68 _ _ _ ?_ ?_
                    · intro z68
                      first | (exact absurd z68 (by decide)) | (exact absurd (by decide) z68) | (exact absurd rfl z68) | (exact absurd z68 (of_nn (by omega))) | (exact absurd (of_np (by omega)) z68) | omega
                    · intro z68
                      refine b_191_71 _ _ _ ?_
                      exact K2 2 (by decide) rfl hj _ h.er.er rfl
              · intro z30
                first | (exact absurd z30 (by decide)) | (exact absurd (by decide) z30) | (exact absurd rfl z30) | (exact absurd z30 (of_nn (by omega))) | (exact absurd (of_np (by omega)) z30) | omega
          · intro z15
            first | (exact absurd z15 (by decide)) | (exact absurd (by decide) z15) | (exact absurd rfl z15) | (exact absurd z15 (of_nn (by omega))) | (exact absurd (of_np (by omega)) z15) | omega
        · exact absurd hxg g
    · show mi_W (d + 1) 191 0 (mi_en 3 [.ref 505, .int 3, .int y]) [] (n, sl, hd b f0) Q
      by_cases hj : ∃ j, j < mx_cn ev 3 ∧ y = Int32.ofNat j
      · have hg := hi7.mpr hj
        obtain ⟨j, hj, rfl⟩ := hj
        have hjj : j < ev.ps.1 := hj
        have hix := ix_of (w := j) (m := 2000) (by omega) (by omega)
        refine b_191_0 _ _ _ (by first | (exact hd_9) | assumption) (by omega) (by rw [mL_len]; decide) ?_
        refine hw_W (gw_X (by decide)) ?_
        refine s_in (fun _ => ?_) (fun g => ?_)
        · refine b_191_15 _ _ _ ?_ ?_
          · intro z15
            refine b_191_22 _ _ _ ?_
            refine b_191_23 _ _ _ (by first | (exact hd_9) | assumption) (by omega) ?_
            refine g_fl0 hn rfl ?_
            refine b_191_27 _ _ _ ?_ ?_
            · intro z27
              first | (exact absurd z27 (by decide)) | (exact absurd (by decide) z27) | (exact absurd rfl z27) | (exact absurd z27 (of_nn (by omega))) | (exact absurd (of_np (by omega)) z27) | omega
            · intro z27
              refine b_191_30 _ _ _ ?_ ?_
              · intro z30
                refine b_191_46 _ _ _ (by first | (exact hd_9) | assumption) (by omega) (by exact mL_get (by decide)) ?_
                refine b_191_50 _ _ _ ?_
                refine s_in (fun _ => ?_) (fun g => ?_)
                · refine b_191_56 _ _ _ ?_ ?_
                  · intro z56
                    refine b_191_63 _ _ _ ?_
                    refine b_191_64 _ _ _ (by first | (exact hd_9) | assumption) (by omega) ?_
                    refine g_fl0 hn rfl ?_
                    refine b_191_68 _ _ _ ?_ ?_
                    · intro z68
                      refine b_191_73 _ _ _ ?_ ?_
                      · intro z73
                        refine b_191_86 _ _ _ ?_ ?_
                        · intro z86
                          refine b_191_100 _ _ _ ?_ ?_
                          · intro z100
                            refine b_191_114 _ _ _ ?_ ?_
                            · intro z114
                              first | (exact absurd z114 (by decide)) | (exact absurd (by decide) z114) | (exact absurd rfl z114) | (exact absurd z114 (of_nn (by omega))) | (exact absurd (of_np (by omega)) z114) | omega
                            · intro z114
                              refine b_191_119 _ _ _ _ _ _ (by first | (exact hd_9) | assumption) (by omega) (by exact mL_get (by decide)) (by first | (exact hd_I (by omega) rfl) | assumption) (Or.inl (by omega)) (by first | assumption | (exact ix_of (by omega) (by omega)) | (exact ⟨by decide, rfl, by decide⟩)) ?_
                              refine b_191_134 _ _ _ ?_
                              show Q (.inl (some (.int (b.I 559 j)))) _
                              rw [(hv7 j hjj).2.1]
                              exact K0 3 j (by decide) rfl hj rfl _ h.er rfl
                          · intro z100
                            first | (exact absurd z100 (by decide)) | (exact absurd (by decide) z100) | (exact absurd rfl z100) | (exact absurd z100 (of_nn (by omega))) | (exact absurd (of_np (by omega)) z100) | omega
                        · intro z86
                          first | (exact absurd z86 (by decide)) | (exact absurd (by decide) z86) | (exact absurd rfl z86) | (exact absurd z86 (of_nn (by omega))) | (exact absurd (of_np (by omega)) z86) | omega
                      · intro z73
                        first | (exact absurd z73 (by decide)) | (exact absurd (by decide) z73) | (exact absurd rfl z73) | (exact absurd z73 (of_nn (by omega))) | (exact absurd (of_np (by omega)) z73) | omega
                    · intro z68
                      first | (exact absurd z68 (by decide)) | (exact absurd (by decide) z68) | (exact absurd rfl z68) | (exact absurd z68 (of_nn (by omega))) | (exact absurd (of_np (by omega)) z68) | omega
                  · intro z56
                    first | (exact absurd z56 (by decide)) | (exact absurd (by decide) z56) | (exact absurd rfl z56) | (exact absurd z56 (of_nn (by omega))) | (exact absurd (of_np (by omega)) z56) | omega
                · exact absurd hg g
              · intro z30
                first | (exact absurd z30 (by decide)) | (exact absurd (by decide) z30) | (exact absurd rfl z30) | (exact absurd z30 (of_nn (by omega))) | (exact absurd (of_np (by omega)) z30) | omega
          · intro z15
            first | (exact absurd z15 (by decide)) | (exact absurd (by decide) z15) | (exact absurd rfl z15) | (exact absurd z15 (of_nn (by omega))) | (exact absurd (of_np (by omega)) z15) | omega
        · exact absurd hxg g
      · have hg := fun g => hj (hi7.mp g)
        refine b_191_0 _ _ _ (by first | (exact hd_9) | assumption) (by omega) (by rw [mL_len]; decide) ?_
        refine hw_W (gw_X (by decide)) ?_
        refine s_in (fun _ => ?_) (fun g => ?_)
        · refine b_191_15 _ _ _ ?_ ?_
          · intro z15
            refine b_191_22 _ _ _ ?_
            refine b_191_23 _ _ _ (by first | (exact hd_9) | assumption) (by omega) ?_
            refine g_fl0 hn rfl ?_
            refine b_191_27 _ _ _ ?_ ?_
            · intro z27
              first | (exact absurd z27 (by decide)) | (exact absurd (by decide) z27) | (exact absurd rfl z27) | (exact absurd z27 (of_nn (by omega))) | (exact absurd (of_np (by omega)) z27) | omega
            · intro z27
              refine b_191_30 _ _ _ ?_ ?_
              · intro z30
                refine b_191_46 _ _ _ (by first | (exact hd_9) | assumption) (by omega) (by exact mL_get (by decide)) ?_
                refine b_191_50 _ _ _ ?_
                refine s_in (fun g => ?_) (fun _ => ?_)
                · exact absurd g hg
                · refine b_191_56 _ _ _ ?_ ?_
                  · intro z56
                    first | (exact absurd z56 (by decide)) | (exact absurd (by decide) z56) | (exact absurd rfl z56) | (exact absurd z56 (of_nn (by omega))) | (exact absurd (of_np (by omega)) z56) | omega
                  · intro z56
                    refine b_191_59 _ _ _ ?_
                    refine b_191_64 _ _ _ (by first | (exact hd_9) | assumption) (by omega) ?_
                    refine g_fl1 hn rfl (by decide) ?_
                    refine b_191_68 _ _ _ ?_ ?_
                    · intro z68
                      first | (exact absurd z68 (by decide)) | (exact absurd (by decide) z68) | (exact absurd rfl z68) | (exact absurd z68 (of_nn (by omega))) | (exact absurd (of_np (by omega)) z68) | omega
                    · intro z68
                      refine b_191_71 _ _ _ ?_
                      exact K2 3 (by decide) rfl hj _ h.er.er rfl
              · intro z30
                first | (exact absurd z30 (by decide)) | (exact absurd (by decide) z30) | (exact absurd rfl z30) | (exact absurd z30 (of_nn (by omega))) | (exact absurd (of_np (by omega)) z30) | omega
          · intro z15
            first | (exact absurd z15 (by decide)) | (exact absurd (by decide) z15) | (exact absurd rfl z15) | (exact absurd z15 (of_nn (by omega))) | (exact absurd (of_np (by omega)) z15) | omega
        · exact absurd hxg g
    · show mi_W (d + 1) 191 0 (mi_en 3 [.ref 505, .int 4, .int y]) [] (n, sl, hd b f0) Q
      by_cases hj : ∃ j, j < mx_cn ev 4 ∧ y = Int32.ofNat j
      · have hg := hi7.mpr hj
        obtain ⟨j, hj, rfl⟩ := hj
        have hjj : j < ev.ps.1 := hj
        have hix := ix_of (w := j) (m := 2000) (by omega) (by omega)
        refine b_191_0 _ _ _ (by first | (exact hd_9) | assumption) (by omega) (by rw [mL_len]; decide) ?_
        refine hw_W (gw_X (by decide)) ?_
        refine s_in (fun _ => ?_) (fun g => ?_)
        · refine b_191_15 _ _ _ ?_ ?_
          · intro z15
            refine b_191_22 _ _ _ ?_
            refine b_191_23 _ _ _ (by first | (exact hd_9) | assumption) (by omega) ?_
            refine g_fl0 hn rfl ?_
            refine b_191_27 _ _ _ ?_ ?_
            · intro z27
              first | (exact absurd z27 (by decide)) | (exact absurd (by decide) z27) | (exact absurd rfl z27) | (exact absurd z27 (of_nn (by omega))) | (exact absurd (of_np (by omega)) z27) | omega
            · intro z27
              refine b_191_30 _ _ _ ?_ ?_
              · intro z30
                refine b_191_46 _ _ _ (by first | (exact hd_9) | assumption) (by omega) (by exact mL_get (by decide)) ?_
                refine b_191_50 _ _ _ ?_
                refine s_in (fun _ => ?_) (fun g => ?_)
                · refine b_191_56 _ _ _ ?_ ?_
                  · intro z56
                    refine b_191_63 _ _ _ ?_
                    refine b_191_64 _ _ _ (by first | (exact hd_9) | assumption) (by omega) ?_
                    refine g_fl0 hn rfl ?_
                    refine b_191_68 _ _ _ ?_ ?_
                    · intro z68
                      refine b_191_73 _ _ _ ?_ ?_
                      · intro z73
                        refine b_191_86 _ _ _ ?_ ?_
                        · intro z86
                          refine b_191_100 _ _ _ ?_ ?_
                          · intro z100
                            refine b_191_114 _ _ _ ?_ ?_
                            · intro z114
                              refine b_191_128 _ _ _ _ _ _ (by first | (exact hd_9) | assumption) (by omega) (by exact mL_get (by decide)) (by first | (exact hd_I (by omega) rfl) | assumption) (Or.inl (by omega)) (by first | assumption | (exact ix_of (by omega) (by omega)) | (exact ⟨by decide, rfl, by decide⟩)) ?_
                              refine b_191_134 _ _ _ ?_
                              show Q (.inl (some (.int (b.I 560 j)))) _
                              rw [(hv7 j hjj).2.2.1]
                              exact K0 4 j (by decide) rfl hj rfl _ h.er rfl
                            · intro z114
                              first | (exact absurd z114 (by decide)) | (exact absurd (by decide) z114) | (exact absurd rfl z114) | (exact absurd z114 (of_nn (by omega))) | (exact absurd (of_np (by omega)) z114) | omega
                          · intro z100
                            first | (exact absurd z100 (by decide)) | (exact absurd (by decide) z100) | (exact absurd rfl z100) | (exact absurd z100 (of_nn (by omega))) | (exact absurd (of_np (by omega)) z100) | omega
                        · intro z86
                          first | (exact absurd z86 (by decide)) | (exact absurd (by decide) z86) | (exact absurd rfl z86) | (exact absurd z86 (of_nn (by omega))) | (exact absurd (of_np (by omega)) z86) | omega
                      · intro z73
                        first | (exact absurd z73 (by decide)) | (exact absurd (by decide) z73) | (exact absurd rfl z73) | (exact absurd z73 (of_nn (by omega))) | (exact absurd (of_np (by omega)) z73) | omega
                    · intro z68
                      first | (exact absurd z68 (by decide)) | (exact absurd (by decide) z68) | (exact absurd rfl z68) | (exact absurd z68 (of_nn (by omega))) | (exact absurd (of_np (by omega)) z68) | omega
                  · intro z56
                    first | (exact absurd z56 (by decide)) | (exact absurd (by decide) z56) | (exact absurd rfl z56) | (exact absurd z56 (of_nn (by omega))) | (exact absurd (of_np (by omega)) z56) | omega
                · exact absurd hg g
              · intro z30
                first | (exact absurd z30 (by decide)) | (exact absurd (by decide) z30) | (exact absurd rfl z30) | (exact absurd z30 (of_nn (by omega))) | (exact absurd (of_np (by omega)) z30) | omega
          · intro z15
            first | (exact absurd z15 (by decide)) | (exact absurd (by decide) z15) | (exact absurd rfl z15) | (exact absurd z15 (of_nn (by omega))) | (exact absurd (of_np (by omega)) z15) | omega
        · exact absurd hxg g
      · have hg := fun g => hj (hi7.mp g)
        refine b_191_0 _ _ _ (by first | (exact hd_9) | assumption) (by omega) (by rw [mL_len]; decide) ?_
        refine hw_W (gw_X (by decide)) ?_
        refine s_in (fun _ => ?_) (fun g => ?_)
        · refine b_191_15 _ _ _ ?_ ?_
          · intro z15
            refine b_191_22 _ _ _ ?_
            refine b_191_23 _ _ _ (by first | (exact hd_9) | assumption) (by omega) ?_
            refine g_fl0 hn rfl ?_
            refine b_191_27 _ _ _ ?_ ?_
            · intro z27
              first | (exact absurd z27 (by decide)) | (exact absurd (by decide) z27) | (exact absurd rfl z27) | (exact absurd z27 (of_nn (by omega))) | (exact absurd (of_np (by omega)) z27) | omega
            · intro z27
              refine b_191_30 _ _ _ ?_ ?_
              · intro z30
                refine b_191_46 _ _ _ (by first | (exact hd_9) | assumption) (by omega) (by exact mL_get (by decide)) ?_
                refine b_191_50 _ _ _ ?_
                refine s_in (fun g => ?_) (fun _ => ?_)
                · exact absurd g hg
                · refine b_191_56 _ _ _ ?_ ?_
                  · intro z56
                    first | (exact absurd z56 (by decide)) | (exact absurd (by decide) z56) | (exact absurd rfl z56) | (exact absurd z56 (of_nn (by omega))) | (exact absurd (of_np (by omega)) z56) | omega
                  · intro z56
                    refine b_191_59 _ _ _ ?_
                    refine b_191_64 _ _ _ (by first | (exact hd_9) | assumption) (by omega) ?_
                    refine g_fl1 hn rfl (by decide) ?_
                    refine b_191_68 _ _ _ ?_ ?_
                    · intro z68
                      first | (exact absurd z68 (by decide)) | (exact absurd (by decide) z68) | (exact absurd rfl z68) | (exact absurd z68 (of_nn (by omega))) | (exact absurd (of_np (by omega)) z68) | omega
                    · intro z68
                      refine b_191_71 _ _ _ ?_
                      exact K2 4 (by decide) rfl hj _ h.er.er rfl
              · intro z30
                first | (exact absurd z30 (by decide)) | (exact absurd (by decide) z30) | (exact absurd rfl z30) | (exact absurd z30 (of_nn (by omega))) | (exact absurd (of_np (by omega)) z30) | omega
          · intro z15
            first | (exact absurd z15 (by decide)) | (exact absurd (by decide) z15) | (exact absurd rfl z15) | (exact absurd z15 (of_nn (by omega))) | (exact absurd (of_np (by omega)) z15) | omega
        · exact absurd hxg g
  · have hxg := fun g => hx (hxo.mp (hx4.mp g))
    refine b_191_0 _ _ _ (by first | (exact hd_9) | assumption) (by omega) (by rw [mL_len]; decide) ?_
    refine hw_W (gw_X (by decide)) ?_
    refine s_in (fun g => ?_) (fun g => ?_)
    · exact absurd g hxg
    · refine b_191_15 _ _ _ ?_ ?_
      · intro z15
        first | (exact absurd z15 (by decide)) | (exact absurd (by decide) z15) | (exact absurd rfl z15) | (exact absurd z15 (of_nn (by omega))) | (exact absurd (of_np (by omega)) z15) | omega
      · intro z15
        refine b_191_18 _ _ _ ?_
        refine b_191_23 _ _ _ (by first | (exact hd_9) | assumption) (by omega) ?_
        refine g_fl1 hn rfl (by decide) ?_
        refine b_191_27 _ _ _ ?_ ?_
        · intro z27
          refine b_191_71 _ _ _ ?_
          exact K1 hx _ h.er.er rfl
        · intro z27
          first | (exact absurd z27 (by decide)) | (exact absurd (by decide) z27) | (exact absurd rfl z27) | (exact absurd z27 (of_nn (by omega))) | (exact absurd (of_np (by omega)) z27) | omega
theorem gq_step (h : gX r n sl b fd oc wr w many ins ev re con) (K1 : (¬ ∃ i, i ≤ 2 ∧ x = Int32.ofNat i) → ∀ b', gX r n sl b' fd oc wr w many ins ev re con → b'.I 505 0 = 1 → Q (.inl (some (.long 0))) (n, sl, hd b' f0)) (K2 : ∀ i, i ≤ 2 → x = Int32.ofNat i → (¬ ∃ j, j < mx_fl re ∧ y = Int32.ofNat j) → ∀ b', gX r n sl b' fd oc wr w many ins ev re con → b'.I 505 0 = 2 → Q (.inl (some (.long 0))) (n, sl, hd b' f0)) (K0 : ∀ i j, i ≤ 2 → x = Int32.ofNat i → j < mx_fl re → y = Int32.ofNat j → ∀ b', gX r n sl b' fd oc wr w many ins ev re con → b'.I 505 0 = 0 → Q (.inl (some (.long (mx_sv re j i)))) (n, sl, hd b' f0)) : mi_W (d + 1) 202 0 (mi_en 3 [.ref 505, .int y, .int x]) [] (n, sl, hd b f0) Q := by
  have hn := h.2.2.2.2.2.2.2.1.nn.1
  obtain ⟨e11, h11, hv⟩ := h.2.2.2.2.2.1.fl
  have hi := mx_in1 (y := y) (c := mx_fl re) (by omega)
  rw [← e11] at hi
  have hx4 := mp_r64 (p := x) (b := 2) (b' := 2) rfl
  have hxo := mp_of (p := x) (m := 2) (by decide)
  by_cases hx : ∃ i, i ≤ 2 ∧ x = Int32.ofNat i
  · have hxg := hx4.mpr (hxo.mpr hx)
    obtain ⟨i, hi4, rfl⟩ := hx
    rcases (by omega : i = 0 ∨ i = 1 ∨ i = 2) with rfl | rfl | rfl
    · show mi_W (d + 1) 202 0 (mi_en 3 [.ref 505, .int y, .int 0]) [] (n, sl, hd b f0) Q
      by_cases hj : ∃ j, j < mx_fl re ∧ y = Int32.ofNat j
      · have hg := hi.mpr hj
        obtain ⟨j, hj, rfl⟩ := hj
        have hix := ix_of (w := j) (m := 2000) (by omega) (by omega)
        refine b_202_0 _ _ _ (by first | (exact hd_9) | assumption) (by omega) (by rw [mL_len]; decide) ?_
        refine hw_W (gw_X (by decide)) ?_
        refine s_in (fun _ => ?_) (fun g => ?_)
        · refine b_202_15 _ _ _ ?_ ?_
          · intro z15
            refine b_202_22 _ _ _ ?_
            refine b_202_23 _ _ _ (by first | (exact hd_9) | assumption) (by omega) ?_
            refine g_fl0 hn rfl ?_
            refine b_202_27 _ _ _ ?_ ?_
            · intro z27
              first | (exact absurd z27 (by decide)) | (exact absurd (by decide) z27) | (exact absurd rfl z27) | (exact absurd z27 (of_nn (by omega))) | (exact absurd (of_np (by omega)) z27) | omega
            · intro z27
              refine b_202_30 _ _ _ (by first | (exact hd_9) | assumption) (by omega) (by exact mL_get (by decide)) ?_
              refine s_in (fun _ => ?_) (fun g => ?_)
              · refine b_202_44 _ _ _ ?_ ?_
                · intro z44
                  refine b_202_51 _ _ _ ?_
                  refine b_202_52 _ _ _ (by first | (exact hd_9) | assumption) (by omega) ?_
                  refine g_fl0 hn rfl ?_
                  refine b_202_56 _ _ _ ?_ ?_
                  · intro z56
                    refine b_202_61 _ _ _ ?_ ?_
                    · intro z61
                      first | (exact absurd z61 (by decide)) | (exact absurd (by decide) z61) | (exact absurd rfl z61) | (exact absurd z61 (of_nn (by omega))) | (exact absurd (of_np (by omega)) z61) | omega
                    · intro z61
                      refine b_202_65 _ _ _ _ _ _ (by first | (exact hd_9) | assumption) (by omega) (by exact mL_get (by decide)) (by first | (exact hd_I (by omega) rfl) | assumption) (Or.inl (by omega)) (by first | assumption | (exact ix_of (by omega) (by omega)) | (exact ⟨by decide, rfl, by decide⟩)) ?_
                      refine b_202_96 _ _ _ ?_
                      show Q (.inl (some (.long ((b.I 564 j).toInt64)))) _
                      rw [(hv j hj).1]
                      exact K0 0 j (by decide) rfl hj rfl _ h.er rfl
                  · intro z56
                    first | (exact absurd z56 (by decide)) | (exact absurd (by decide) z56) | (exact absurd rfl z56) | (exact absurd z56 (of_nn (by omega))) | (exact absurd (of_np (by omega)) z56) | omega
                · intro z44
                  first | (exact absurd z44 (by decide)) | (exact absurd (by decide) z44) | (exact absurd rfl z44) | (exact absurd z44 (of_nn (by omega))) | (exact absurd (of_np (by omega)) z44) | omega
              · exact absurd hg g
          · intro z15
            first | (exact absurd z15 (by decide)) | (exact absurd (by decide) z15) | (exact absurd rfl z15) | (exact absurd z15 (of_nn (by omega))) | (exact absurd (of_np (by omega)) z15) | omega
        · exact absurd hxg g
      · have hg := fun g => hj (hi.mp g)
        refine b_202_0 _ _ _ (by first | (exact hd_9) | assumption) (by omega) (by rw [mL_len]; decide) ?_
        refine hw_W (gw_X (by decide)) ?_
        refine s_in (fun _ => ?_) (fun g => ?_)
        · refine b_202_15 _ _ _ ?_ ?_
          · intro z15
            refine b_202_22 _ _ _ ?_
            refine b_202_23 _ _ _ (by first | (exact hd_9) | assumption) (by omega) ?_
            refine g_fl0 hn rfl ?_
            refine b_202_27 _ _ _ ?_ ?_
            · intro z27
              first | (exact absurd z27 (by decide)) | (exact absurd (by decide) z27) | (exact absurd rfl z27) | (exact absurd z27 (of_nn (by omega))) | (exact absurd (of_np (by omega)) z27) | omega
            · intro z27
              refine b_202_30 _ _ _ (by first | (exact hd_9) | assumption) (by omega) (by exact mL_get (by decide)) ?_
              refine s_in (fun g => ?_) (fun _ => ?_)
              · exact absurd g hg
              · refine b_202_44 _ _ _ ?_ ?_
                · intro z44
                  first | (exact absurd z44 (by decide)) | (exact absurd (by decide) z44) | (exact absurd rfl z44) | (exact absurd z44 (of_nn (by omega))) | (exact absurd (of_np (by omega)) z44) | omega
                · intro z44
                  refine b_202_47 _ _ _ ?_
                  refine b_202_52 _ _ _ (by first | (exact hd_9) | assumption) (by omega) ?_
                  refine g_fl1 hn rfl (by decide) ?_
                  refine b_202_56 _ _ _ ?_ ?_
                  · intro z56
                    first | (exact absurd z56 (by decide)) | (exact absurd (by decide) z56) | (exact absurd rfl z56) | (exact absurd z56 (of_nn (by omega))) | (exact absurd (of_np (by omega)) z56) | omega
                  · intro z56
                    refine b_202_59 _ _ _ ?_
                    exact K2 0 (by decide) rfl hj _ h.er.er rfl
          · intro z15
            first | (exact absurd z15 (by decide)) | (exact absurd (by decide) z15) | (exact absurd rfl z15) | (exact absurd z15 (of_nn (by omega))) | (exact absurd (of_np (by omega)) z15) | omega
        · exact absurd hxg g
    · show mi_W (d + 1) 202 0 (mi_en 3 [.ref 505, .int y, .int 1]) [] (n, sl, hd b f0) Q
      by_cases hj : ∃ j, j < mx_fl re ∧ y = Int32.ofNat j
      · have hg := hi.mpr hj
        obtain ⟨j, hj, rfl⟩ := hj
        have hix := ix_of (w := j) (m := 2000) (by omega) (by omega)
        refine b_202_0 _ _ _ (by first | (exact hd_9) | assumption) (by omega) (by rw [mL_len]; decide) ?_
        refine hw_W (gw_X (by decide)) ?_
        refine s_in (fun _ => ?_) (fun g => ?_)
        · refine b_202_15 _ _ _ ?_ ?_
          · intro z15
            refine b_202_22 _ _ _ ?_
            refine b_202_23 _ _ _ (by first | (exact hd_9) | assumption) (by omega) ?_
            refine g_fl0 hn rfl ?_
            refine b_202_27 _ _ _ ?_ ?_
            · intro z27
              first | (exact absurd z27 (by decide)) | (exact absurd (by decide) z27) | (exact absurd rfl z27) | (exact absurd z27 (of_nn (by omega))) | (exact absurd (of_np (by omega)) z27) | omega
            · intro z27
              refine b_202_30 _ _ _ (by first | (exact hd_9) | assumption) (by omega) (by exact mL_get (by decide)) ?_
              refine s_in (fun _ => ?_) (fun g => ?_)
              · refine b_202_44 _ _ _ ?_ ?_
                · intro z44
                  refine b_202_51 _ _ _ ?_
                  refine b_202_52 _ _ _ (by first | (exact hd_9) | assumption) (by omega) ?_
                  refine g_fl0 hn rfl ?_
                  refine b_202_56 _ _ _ ?_ ?_
                  · intro z56
                    refine b_202_61 _ _ _ ?_ ?_
                    · intro z61
                      refine b_202_75 _ _ _ ?_ ?_
                      · intro z75
                        first | (exact absurd z75 (by decide)) | (exact absurd (by decide) z75) | (exact absurd rfl z75) | (exact absurd z75 (of_nn (by omega))) | (exact absurd (of_np (by omega)) z75) | omega
                      · intro z75
                        refine b_202_80 _ _ _ _ _ _ (by first | (exact hd_9) | assumption) (by omega) (by exact mL_get (by decide)) (by first | (exact hd_J (by omega) rfl) | (exact hd_L1 (by assumption)) | (exact hd_L2 (by assumption)) | (exact hd_L3 (by assumption)) | assumption) (by omega) (by first | assumption | (exact ix_of (by omega) (by omega)) | (exact ⟨by decide, rfl, by decide⟩)) ?_
                        refine b_202_96 _ _ _ ?_
                        show Q (.inl (some (.long (b.J 567 j)))) _
                        rw [(hv j hj).2.1]
                        exact K0 1 j (by decide) rfl hj rfl _ h.er rfl
                    · intro z61
                      first | (exact absurd z61 (by decide)) | (exact absurd (by decide) z61) | (exact absurd rfl z61) | (exact absurd z61 (of_nn (by omega))) | (exact absurd (of_np (by omega)) z61) | omega
                  · intro z56
                    first | (exact absurd z56 (by decide)) | (exact absurd (by decide) z56) | (exact absurd rfl z56) | (exact absurd z56 (of_nn (by omega))) | (exact absurd (of_np (by omega)) z56) | omega
                · intro z44
                  first | (exact absurd z44 (by decide)) | (exact absurd (by decide) z44) | (exact absurd rfl z44) | (exact absurd z44 (of_nn (by omega))) | (exact absurd (of_np (by omega)) z44) | omega
              · exact absurd hg g
          · intro z15
            first | (exact absurd z15 (by decide)) | (exact absurd (by decide) z15) | (exact absurd rfl z15) | (exact absurd z15 (of_nn (by omega))) | (exact absurd (of_np (by omega)) z15) | omega
        · exact absurd hxg g
      · have hg := fun g => hj (hi.mp g)
        refine b_202_0 _ _ _ (by first | (exact hd_9) | assumption) (by omega) (by rw [mL_len]; decide) ?_
        refine hw_W (gw_X (by decide)) ?_
        refine s_in (fun _ => ?_) (fun g => ?_)
        · refine b_202_15 _ _ _ ?_ ?_
          · intro z15
            refine b_202_22 _ _ _ ?_
            refine b_202_23 _ _ _ (by first | (exact hd_9) | assumption) (by omega) ?_
            refine g_fl0 hn rfl ?_
            refine b_202_27 _ _ _ ?_ ?_
            · intro z27
              first | (exact absurd z27 (by decide)) | (exact absurd (by decide) z27) | (exact absurd rfl z27) | (exact absurd z27 (of_nn (by omega))) | (exact absurd (of_np (by omega)) z27) | omega
            · intro z27
              refine b_202_30 _ _ _ (by first | (exact hd_9) | assumption) (by omega) (by exact mL_get (by decide)) ?_
              refine s_in (fun g => ?_) (fun _ => ?_)
              · exact absurd g hg
              · refine b_202_44 _ _ _ ?_ ?_
                · intro z44
                  first | (exact absurd z44 (by decide)) | (exact absurd (by decide) z44) | (exact absurd rfl z44) | (exact absurd z44 (of_nn (by omega))) | (exact absurd (of_np (by omega)) z44) | omega
                · intro z44
                  refine b_202_47 _ _ _ ?_
                  refine b_202_52 _ _ _ (by first | (exact hd_9) | assumption) (by omega) ?_
                  refine g_fl1 hn rfl (by decide) ?_
                  refine b_202_56 _ _ _ ?_ ?_
                  · intro z56
                    first | (exact absurd z56 (by decide)) | (exact absurd (by decide) z56) | (exact absurd rfl z56) | (exact absurd z56 (of_nn (by omega))) | (exact absurd (of_np (by omega)) z56) | omega
                  · intro z56
                    refine b_202_59 _ _ _ ?_
                    exact K2 1 (by decide) rfl hj _ h.er.er rfl
          · intro z15
            first | (exact absurd z15 (by decide)) | (exact absurd (by decide) z15) | (exact absurd rfl z15) | (exact absurd z15 (of_nn (by omega))) | (exact absurd (of_np (by omega)) z15) | omega
        · exact absurd hxg g
    · show mi_W (d + 1) 202 0 (mi_en 3 [.ref 505, .int y, .int 2]) [] (n, sl, hd b f0) Q
      by_cases hj : ∃ j, j < mx_fl re ∧ y = Int32.ofNat j
      · have hg := hi.mpr hj
        obtain ⟨j, hj, rfl⟩ := hj
        have hix := ix_of (w := j) (m := 2000) (by omega) (by omega)
        refine b_202_0 _ _ _ (by first | (exact hd_9) | assumption) (by omega) (by rw [mL_len]; decide) ?_
        refine hw_W (gw_X (by decide)) ?_
        refine s_in (fun _ => ?_) (fun g => ?_)
        · refine b_202_15 _ _ _ ?_ ?_
          · intro z15
            refine b_202_22 _ _ _ ?_
            refine b_202_23 _ _ _ (by first | (exact hd_9) | assumption) (by omega) ?_
            refine g_fl0 hn rfl ?_
            refine b_202_27 _ _ _ ?_ ?_
            · intro z27
              first | (exact absurd z27 (by decide)) | (exact absurd (by decide) z27) | (exact absurd rfl z27) | (exact absurd z27 (of_nn (by omega))) | (exact absurd (of_np (by omega)) z27) | omega
            · intro z27
              refine b_202_30 _ _ _ (by first | (exact hd_9) | assumption) (by omega) (by exact mL_get (by decide)) ?_
              refine s_in (fun _ => ?_) (fun g => ?_)
              · refine b_202_44 _ _ _ ?_ ?_
                · intro z44
                  refine b_202_51 _ _ _ ?_
                  refine b_202_52 _ _ _ (by first | (exact hd_9) | assumption) (by omega) ?_
                  refine g_fl0 hn rfl ?_
                  refine b_202_56 _ _ _ ?_ ?_
                  · intro z56
                    refine b_202_61 _ _ _ ?_ ?_
                    · intro z61
                      refine b_202_75 _ _ _ ?_ ?_
                      · intro z75
                        refine b_202_89 _ _ _ _ _ _ (by first | (exact hd_9) | assumption) (by omega) (by exact mL_get (by decide)) (by first | (exact hd_I (by omega) rfl) | assumption) (Or.inl (by omega)) (by first | assumption | (exact ix_of (by omega) (by omega)) | (exact ⟨by decide, rfl, by decide⟩)) ?_
                        refine b_202_96 _ _ _ ?_
                        show Q (.inl (some (.long ((b.I 565 j).toInt64)))) _
                        rw [(hv j hj).2.2]
                        exact K0 2 j (by decide) rfl hj rfl _ h.er rfl
                      · intro z75
                        first | (exact absurd z75 (by decide)) | (exact absurd (by decide) z75) | (exact absurd rfl z75) | (exact absurd z75 (of_nn (by omega))) | (exact absurd (of_np (by omega)) z75) | omega
                    · intro z61
                      first | (exact absurd z61 (by decide)) | (exact absurd (by decide) z61) | (exact absurd rfl z61) | (exact absurd z61 (of_nn (by omega))) | (exact absurd (of_np (by omega)) z61) | omega
                  · intro z56
                    first | (exact absurd z56 (by decide)) | (exact absurd (by decide) z56) | (exact absurd rfl z56) | (exact absurd z56 (of_nn (by omega))) | (exact absurd (of_np (by omega)) z56) | omega
                · intro z44
                  first | (exact absurd z44 (by decide)) | (exact absurd (by decide) z44) | (exact absurd rfl z44) | (exact absurd z44 (of_nn (by omega))) | (exact absurd (of_np (by omega)) z44) | omega
              · exact absurd hg g
          · intro z15
            first | (exact absurd z15 (by decide)) | (exact absurd (by decide) z15) | (exact absurd rfl z15) | (exact absurd z15 (of_nn (by omega))) | (exact absurd (of_np (by omega)) z15) | omega
        · exact absurd hxg g
      · have hg := fun g => hj (hi.mp g)
        refine b_202_0 _ _ _ (by first | (exact hd_9) | assumption) (by omega) (by rw [mL_len]; decide) ?_
        refine hw_W (gw_X (by decide)) ?_
        refine s_in (fun _ => ?_) (fun g => ?_)
        · refine b_202_15 _ _ _ ?_ ?_
          · intro z15
            refine b_202_22 _ _ _ ?_
            refine b_202_23 _ _ _ (by first | (exact hd_9) | assumption) (by omega) ?_
            refine g_fl0 hn rfl ?_
            refine b_202_27 _ _ _ ?_ ?_
            · intro z27
              first | (exact absurd z27 (by decide)) | (exact absurd (by decide) z27) | (exact absurd rfl z27) | (exact absurd z27 (of_nn (by omega))) | (exact absurd (of_np (by omega)) z27) | omega
            · intro z27
              refine b_202_30 _ _ _ (by first | (exact hd_9) | assumption) (by omega) (by exact mL_get (by decide)) ?_
              refine s_in (fun g => ?_) (fun _ => ?_)
              · exact absurd g hg
              · refine b_202_44 _ _ _ ?_ ?_
                · intro z44
                  first | (exact absurd z44 (by decide)) | (exact absurd (by decide) z44) | (exact absurd rfl z44) | (exact absurd z44 (of_nn (by omega))) | (exact absurd (of_np (by omega)) z44) | omega
                · intro z44
                  refine b_202_47 _ _ _ ?_
                  refine b_202_52 _ _ _ (by first | (exact hd_9) | assumption) (by omega) ?_
                  refine g_fl1 hn rfl (by decide) ?_
                  refine b_202_56 _ _ _ ?_ ?_
                  · intro z56
                    first | (exact absurd z56 (by decide)) | (exact absurd (by decide) z56) | (exact absurd rfl z56) | (exact absurd z56 (of_nn (by omega))) | (exact absurd (of_np (by omega)) z56) | omega
                  · intro z56
                    refine b_202_59 _ _ _ ?_
                    exact K2 2 (by decide) rfl hj _ h.er.er rfl
          · intro z15
            first | (exact absurd z15 (by decide)) | (exact absurd (by decide) z15) | (exact absurd rfl z15) | (exact absurd z15 (of_nn (by omega))) | (exact absurd (of_np (by omega)) z15) | omega
        · exact absurd hxg g
  · have hxg := fun g => hx (hxo.mp (hx4.mp g))
    refine b_202_0 _ _ _ (by first | (exact hd_9) | assumption) (by omega) (by rw [mL_len]; decide) ?_
    refine hw_W (gw_X (by decide)) ?_
    refine s_in (fun g => ?_) (fun g => ?_)
    · exact absurd g hxg
    · refine b_202_15 _ _ _ ?_ ?_
      · intro z15
        first | (exact absurd z15 (by decide)) | (exact absurd (by decide) z15) | (exact absurd rfl z15) | (exact absurd z15 (of_nn (by omega))) | (exact absurd (of_np (by omega)) z15) | omega
      · intro z15
        refine b_202_18 _ _ _ ?_
        refine b_202_23 _ _ _ (by first | (exact hd_9) | assumption) (by omega) ?_
        refine g_fl1 hn rfl (by decide) ?_
        refine b_202_27 _ _ _ ?_ ?_
        · intro z27
          refine b_202_59 _ _ _ ?_
          exact K1 hx _ h.er.er rfl
        · intro z27
          first | (exact absurd z27 (by decide)) | (exact absurd (by decide) z27) | (exact absurd rfl z27) | (exact absurd z27 (of_nn (by omega))) | (exact absurd (of_np (by omega)) z27) | omega
end
