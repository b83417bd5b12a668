/-! the first object's small public methods -/
def mx_cn (ev : mv_Z) (i : Nat) : Nat := if i ≤ 1 then ev.ws.1 else ev.ps.1
def mx_tv (ev : mv_Z) (i j : Nat) : Int32 := if i = 0 then Int32.ofNat (ev.ws.2 j).1 else if i = 1 then Int32.ofNat (ev.ws.2 j).2 else if i = 2 then Int32.ofNat (ev.ps.2 j).1 else if i = 3 then Int32.ofNat (ev.ps.2 j).2.1 else Int32.ofNat (ev.ps.2 j).2.2.1
def mx_fl (re : ma_R) : Nat := if re.1 = 1 then re.2.2.length else 0
def mx_sv (re : ma_R) (j i : Nat) : Int64 := if i = 0 then (Int32.ofNat (re.2.2[j]?.getD (0, 0, 0)).1).toInt64 else if i = 1 then (re.2.2[j]?.getD (0, 0, 0)).2.1 else (mz_lk (re.2.2[j]?.getD (0, 0, 0)).2.2).toInt64
def mx_cv (many : Nat) (ev : mv_Z) (re : ma_R) (i : Nat) : Option mx_K → Int32
  | none => if i = 6 then Int32.ofNat many else if i = 7 then Int32.ofNat ev.ws.1 else if i = 8 then Int32.ofNat ev.ps.1 else if i = 9 then Int32.ofNat re.2.1 else if i = 10 then Int32.ofNat (mx_fl re) else if i = 0 then -1 else 0
  | some K => if i = 6 then Int32.ofNat many else if i = 7 then Int32.ofNat ev.ws.1 else if i = 8 then Int32.ofNat ev.ps.1 else if i = 9 then Int32.ofNat re.2.1 else if i = 10 then Int32.ofNat (mx_fl re) else if i = 0 then Int32.ofNat K.2.1.at else if i = 1 then Int32.ofNat K.1.1 else if i = 2 then Int32.ofNat K.2.2.1 else if i = 3 then Int32.ofNat K.2.2.2.1 else if i = 4 then Int32.ofNat K.2.2.2.2.1 else Int32.ofNat K.2.2.2.2.2
def mx_stv (w : Nat → Int64) (i x y : Nat) : Option mx_K → Int64
  | none => if i = 1 then w (x * 4 + y) else 0
  | some K => if i = 1 then w (x * 4 + y) else if i = 0 then K.2.1.ac (x * 4 + y) else if i = 2 then (K.2.1.ch x).getD 0 else if i = 3 then (K.2.1.us x).getD 0 else K.2.1.tm
section
variable {d e n sl fd many : Nat} {a a' : mh_A} {f0 : Nat → mi_C} {Q : (Option Value ⊕ Nat) → mi_H → Prop} {oc : Nat → Int32} {wr x y z : Int32} {w : Nat → Int64} {ins : Nat → mv_I} {ev : mv_Z} {re : ma_R} {con : Option mx_K} {v : Int64}
theorem mx_ix {c : Nat} (hc : c ≤ 10000) : (¬ y < 0 ∧ y < Int32.ofNat c) ↔ ∃ j, j < c ∧ y = Int32.ofNat j := by
  have e0 : (0 : Int32).toInt = 0 := rfl
  constructor
  · rintro ⟨h1, h2⟩
    rw [Int32.lt_iff_toInt_lt, e0] at h1
    rw [Int32.lt_iff_toInt_lt, Int32.toInt_ofNat_of_lt (by omega)] at h2
    refine ⟨y.toInt.toNat, by omega, i_of (by omega)⟩
  · rintro ⟨j, hj, rfl⟩
    exact ⟨of_nn (by omega), (of_lt (by omega) (by omega)).mpr hj⟩
theorem mx_4 {i j : Nat} (hi : i < 8) (hj : j < 4) : mi_ix (Int32.ofNat i * 4 + Int32.ofNat j) 32 (i * 4 + j) := by
  rw [show (4 : Int32) = Int32.ofNat 4 from rfl, of_mul, of_add']
  exact ix_of (by omega) (by omega)
theorem cRes.fl (h : cRes a re) : a.I 11 54 11 = Int32.ofNat (mx_fl re) ∧ mx_fl re ≤ 104 ∧ ∀ j, j < mx_fl re → a.AI 11 54 7 j = Int32.ofNat (re.2.2[j]?.getD (0, 0, 0)).1 ∧ a.AL 11 54 8 j = (re.2.2[j]?.getD (0, 0, 0)).2.1 ∧ a.AI 11 54 9 j = mz_lk (re.2.2[j]?.getD (0, 0, 0)).2.2 := by
  unfold mx_fl
  by_cases h1 : re.1 = 1
  · rw [if_pos h1]
    obtain ⟨g1, g2, g3⟩ := h.2.2.1 h1
    refine ⟨g1, g2, fun j hj => ?_⟩
    have e := List.getElem?_eq_getElem hj
    rw [e]
    exact g3 j _ e
  · rw [if_neg h1]
    exact ⟨h.2.1 h1, by omega, fun j hj => absurd hj (Nat.not_lt_zero j)⟩
theorem cq_wrong (hn : 575 ≤ n) (h : cX a fd oc wr w many ins ev re con) (K : Q (.inl (some (.int wr))) (n, sl, hc a f0)) : mi_W d 12 0 (mi_en 1 [.ref 0]) [] (n, sl, hc a f0) Q := by
  refine b_12_0 _ _ _ (by first | (exact hc_o (by first | assumption | (exact ⟨by decide, rfl⟩))) | assumption | (exact (hc_far (by omega)).trans (by assumption))) (by omega) (by first | rfl | assumption) (by first | (exact hc_o (by first | assumption | (exact ⟨by decide, rfl⟩))) | assumption | (exact (hc_far (by omega)).trans (by assumption))) (by omega) (by first | rfl | assumption) ?_
  rw [h.2.1]
  exact K
theorem cq_paid (hn : 575 ≤ n) (hN : n < 601000 ∧ sl ≤ 7293000) (h : cX a fd oc wr w many ins ev re con) (K1 : (¬ ∃ j, j < ev.ps.1 ∧ y = Int32.ofNat j) → Q (.inr n) (n + 1, sl + 6, hc a (va_up f0 n (.inr (14, []))))) (K0 : ∀ j, j < ev.ps.1 → y = Int32.ofNat j → Q (.inl (some (.long (ev.ps.2 j).2.2.2))) (n, sl, hc a f0)) : mi_W d 116 0 (mi_en 2 [.ref 0, .int y]) [] (n, sl, hc a f0) Q := by
  have e7 : a.I 8 42 7 = Int32.ofNat ev.ps.1 := h.2.2.2.2.1.2.1
  have h8 := h.2.2.2.2.1.2.2.1
  have hv := h.2.2.2.2.1.2.2.2
  have hi := mx_ix (y := y) (c := ev.ps.1) (by omega)
  rw [← e7] at hi
  refine b_116_0 _ _ _ ?_ ?_
  · intro z0
    refine b_116_18 _ _ _ (mi_tq_ok (ce := 14) (by decide +kernel) (by omega) (by omega)) ?_
    refine hw_Q (hc_out (by omega)) ?_
    first | exact K1 (fun g => (hi.mpr g).1 z0) | exact K1 (fun g => z4 (hi.mpr g).2)
  · intro z0
    refine b_116_4 _ _ _ (by first | (exact hc_o (by first | assumption | (exact ⟨by decide, rfl⟩))) | assumption | (exact (hc_far (by omega)).trans (by assumption))) (by omega) (by first | rfl | assumption) (by first | (exact hc_o (by first | assumption | (exact ⟨by decide, rfl⟩))) | assumption | (exact (hc_far (by omega)).trans (by assumption))) (by omega) (by first | rfl | assumption) (by first | (exact hc_o (by first | assumption | (exact ⟨by decide, rfl⟩))) | assumption | (exact (hc_far (by omega)).trans (by assumption))) (by omega) (by first | rfl | assumption) ?_ ?_
    · intro z4
      obtain ⟨j, hj, rfl⟩ := hi.mp ⟨z0, z4⟩
      have hix := ix_of (w := j) (m := 148) (by omega) (by omega)
      refine b_116_28 _ _ _ _ _ _ (by first | (exact hc_o (by first | assumption | (exact ⟨by decide, rfl⟩))) | assumption | (exact (hc_far (by omega)).trans (by assumption))) (by omega) (by first | rfl | assumption) (by first | (exact hc_o (by first | assumption | (exact ⟨by decide, rfl⟩))) | assumption | (exact (hc_far (by omega)).trans (by assumption))) (by omega) (by first | rfl | assumption) (by first | (exact hc_o (by first | assumption | (exact ⟨by decide, rfl⟩))) | assumption | (exact (hc_far (by omega)).trans (by assumption))) (by omega) (by first | rfl | assumption) (by first | (exact hc_al (by omega) (by first | assumption | (exact (ht9 (by assumption)).2.1) | (exact (ht9 (by assumption)).2.2.1) | (exact (ht9 (by assumption)).2.2.2) | rfl)) | assumption | (exact (hc_far (by omega)).trans (by assumption))) (by omega) (by first | assumption | (exact ix_of (by omega) (by omega)) | (exact ⟨by decide, rfl, by decide⟩)) ?_
      rw [(hv j hj).2.2.2]
      exact K0 j hj rfl
    · intro z4
      refine b_116_18 _ _ _ (mi_tq_ok (ce := 14) (by decide +kernel) (by omega) (by omega)) ?_
      refine hw_Q (hc_out (by omega)) ?_
      first | exact K1 (fun g => (hi.mpr g).1 z0) | exact K1 (fun g => z4 (hi.mpr g).2)
theorem cq_told (hn : 575 ≤ n) (hN : n < 601000 ∧ sl ≤ 7293000) (h : cX a fd oc wr w many ins ev re con) (K1 : (¬ ∃ i, i ≤ 4 ∧ x = Int32.ofNat i) → Q (.inr n) (n + 1, sl + 6, hc a (va_up f0 n (.inr (15, []))))) (K2 : ∀ i, i ≤ 4 → x = Int32.ofNat i → (¬ ∃ j, j < mx_cn ev i ∧ y = Int32.ofNat j) → Q (.inr n) (n + 1, sl + 6, hc a (va_up f0 n (.inr (14, []))))) (K0 : ∀ i j, i ≤ 4 → x = Int32.ofNat i → j < mx_cn ev i → y = Int32.ofNat j → Q (.inl (some (.int (mx_tv ev i j)))) (n, sl, hc a f0)) : mi_W d 114 0 (mi_en 4 [.ref 0, .int x, .int y]) [] (n, sl, hc a f0) Q := by
  have e6 : a.I 8 42 6 = Int32.ofNat ev.ws.1 := h.2.2.2.2.1.1.1
  have h6 := h.2.2.2.2.1.1.2.1
  have hv6 := h.2.2.2.2.1.1.2.2
  have e7 : a.I 8 42 7 = Int32.ofNat ev.ps.1 := h.2.2.2.2.1.2.1
  have h7 := h.2.2.2.2.1.2.2.1
  have hv7 := h.2.2.2.2.1.2.2.2
  have hi6 := mx_ix (y := y) (c := ev.ws.1) (by omega)
  have hi7 := mx_ix (y := y) (c := ev.ps.1) (by omega)
  rw [← e6] at hi6
  rw [← e7] at hi7
  by_cases hx : ∃ i, i ≤ 4 ∧ x = Int32.ofNat i
  · obtain ⟨i, hi4, rfl⟩ := hx
    rcases (by omega : i = 0 ∨ i = 1 ∨ i = 2 ∨ i = 3 ∨ i = 4) with rfl | rfl | rfl | rfl | rfl
    · show mi_W d 114 0 (mi_en 4 [.ref 0, .int 0, .int y]) [] (n, sl, hc a f0) Q
      refine b_114_0 _ _ _ ?_ ?_
      · intro z0
        first | (exact absurd z0 (by decide)) | (exact absurd (by decide) z0) | (exact absurd rfl z0) | (exact absurd z0 (of_nn (by omega))) | (exact absurd (of_np (by omega)) z0) | omega
      · intro z0
        refine b_114_4 _ _ _ ?_ ?_
        · intro z4
          refine b_114_19 _ _ _ (by first | (exact hc_o (by first | assumption | (exact ⟨by decide, rfl⟩))) | assumption | (exact (hc_far (by omega)).trans (by assumption))) (by omega) (by first | rfl | assumption) (by first | (exact hc_o (by first | assumption | (exact ⟨by decide, rfl⟩))) | assumption | (exact (hc_far (by omega)).trans (by assumption))) (by omega) (by first | rfl | assumption) ?_ ?_
          · intro z19
            refine b_114_51 _ _ _ (mi_tq_ok (ce := 14) (by decide +kernel) (by omega) (by omega)) ?_
            refine hw_Q (hc_out (by omega)) ?_
            first | exact K2 0 (by decide) rfl (fun g => (hi6.mpr g).1 z19) | exact K2 0 (by decide) rfl (fun g => z48 (hi6.mpr g).2)
          · intro z19
            refine b_114_31 _ _ _ ?_ ?_
            · intro z31
              first | (exact absurd z31 (by decide)) | (exact absurd (by decide) z31) | (exact absurd rfl z31) | (exact absurd z31 (of_nn (by omega))) | (exact absurd (of_np (by omega)) z31) | omega
            · intro z31
              refine b_114_37 _ _ _ (by first | (exact hc_o (by first | assumption | (exact ⟨by decide, rfl⟩))) | assumption | (exact (hc_far (by omega)).trans (by assumption))) (by omega) (by first | rfl | assumption) ?_
              refine b_114_48 _ _ _ ?_ ?_
              · intro z48
                obtain ⟨j, hj, rfl⟩ := hi6.mp ⟨z19, z48⟩
                have hix := ix_of (w := j) (m := 148) (by omega) (by omega)
                refine b_114_61 (t5 := 92) _ _ _ (by decide +kernel) ?_
                refine b_114_92 _ _ _ _ _ _ (by first | (exact hc_o (by first | assumption | (exact ⟨by decide, rfl⟩))) | assumption | (exact (hc_far (by omega)).trans (by assumption))) (by omega) (by first | rfl | assumption) (by first | (exact hc_ai (by omega) (by first | assumption | (exact (ht9 (by assumption)).2.1) | (exact (ht9 (by assumption)).2.2.1) | (exact (ht9 (by assumption)).2.2.2) | rfl) (by decide)) | assumption | (exact (hc_far (by omega)).trans (by assumption))) (Or.inl (by omega)) (by first | assumption | (exact ix_of (by omega) (by omega)) | (exact ⟨by decide, rfl, by decide⟩)) ?_
                rw [(hv6 j hj).1]
                exact K0 0 j (by decide) rfl hj rfl
              · intro z48
                refine b_114_51 _ _ _ (mi_tq_ok (ce := 14) (by decide +kernel) (by omega) (by omega)) ?_
                refine hw_Q (hc_out (by omega)) ?_
                first | exact K2 0 (by decide) rfl (fun g => (hi6.mpr g).1 z19) | exact K2 0 (by decide) rfl (fun g => z48 (hi6.mpr g).2)
        · intro z4
          first | (exact absurd z4 (by decide)) | (exact absurd (by decide) z4) | (exact absurd rfl z4) | (exact absurd z4 (of_nn (by omega))) | (exact absurd (of_np (by omega)) z4) | omega
    · show mi_W d 114 0 (mi_en 4 [.ref 0, .int 1, .int y]) [] (n, sl, hc a f0) Q
      refine b_114_0 _ _ _ ?_ ?_
      · intro z0
        first | (exact absurd z0 (by decide)) | (exact absurd (by decide) z0) | (exact absurd rfl z0) | (exact absurd z0 (of_nn (by omega))) | (exact absurd (of_np (by omega)) z0) | omega
      · intro z0
        refine b_114_4 _ _ _ ?_ ?_
        · intro z4
          refine b_114_19 _ _ _ (by first | (exact hc_o (by first | assumption | (exact ⟨by decide, rfl⟩))) | assumption | (exact (hc_far (by omega)).trans (by assumption))) (by omega) (by first | rfl | assumption) (by first | (exact hc_o (by first | assumption | (exact ⟨by decide, rfl⟩))) | assumption | (exact (hc_far (by omega)).trans (by assumption))) (by omega) (by first | rfl | assumption) ?_ ?_
          · intro z19
            refine b_114_51 _ _ _ (mi_tq_ok (ce := 14) (by decide +kernel) (by omega) (by omega)) ?_
            refine hw_Q (hc_out (by omega)) ?_
            first | exact K2 1 (by decide) rfl (fun g => (hi6.mpr g).1 z19) | exact K2 1 (by decide) rfl (fun g => z48 (hi6.mpr g).2)
          · intro z19
            refine b_114_31 _ _ _ ?_ ?_
            · intro z31
              first | (exact absurd z31 (by decide)) | (exact absurd (by decide) z31) | (exact absurd rfl z31) | (exact absurd z31 (of_nn (by omega))) | (exact absurd (of_np (by omega)) z31) | omega
            · intro z31
              refine b_114_37 _ _ _ (by first | (exact hc_o (by first | assumption | (exact ⟨by decide, rfl⟩))) | assumption | (exact (hc_far (by omega)).trans (by assumption))) (by omega) (by first | rfl | assumption) ?_
              refine b_114_48 _ _ _ ?_ ?_
              · intro z48
                obtain ⟨j, hj, rfl⟩ := hi6.mp ⟨z19, z48⟩
                have hix := ix_of (w := j) (m := 148) (by omega) (by omega)
                refine b_114_61 (t5 := 99) _ _ _ (by decide +kernel) ?_
                refine b_114_99 _ _ _ _ _ _ (by first | (exact hc_o (by first | assumption | (exact ⟨by decide, rfl⟩))) | assumption | (exact (hc_far (by omega)).trans (by assumption))) (by omega) (by first | rfl | assumption) (by first | (exact hc_ai (by omega) (by first | assumption | (exact (ht9 (by assumption)).2.1) | (exact (ht9 (by assumption)).2.2.1) | (exact (ht9 (by assumption)).2.2.2) | rfl) (by decide)) | assumption | (exact (hc_far (by omega)).trans (by assumption))) (Or.inl (by omega)) (by first | assumption | (exact ix_of (by omega) (by omega)) | (exact ⟨by decide, rfl, by decide⟩)) ?_
                rw [(hv6 j hj).2]
                exact K0 1 j (by decide) rfl hj rfl
              · intro z48
                refine b_114_51 _ _ _ (mi_tq_ok (ce := 14) (by decide +kernel) (by omega) (by omega)) ?_
                refine hw_Q (hc_out (by omega)) ?_
                first | exact K2 1 (by decide) rfl (fun g => (hi6.mpr g).1 z19) | exact K2 1 (by decide) rfl (fun g => z48 (hi6.mpr g).2)
        · intro z4
          first | (exact absurd z4 (by decide)) | (exact absurd (by decide) z4) | (exact absurd rfl z4) | (exact absurd z4 (of_nn (by omega))) | (exact absurd (of_np (by omega)) z4) | omega
    · show mi_W d 114 0 (mi_en 4 [.ref 0, .int 2, .int y]) [] (n, sl, hc a f0) Q
      refine b_114_0 _ _ _ ?_ ?_
      · intro z0
        first | (exact absurd z0 (by decide)) | (exact absurd (by decide) z0) | (exact absurd rfl z0) | (exact absurd z0 (of_nn (by omega))) | (exact absurd (of_np (by omega)) z0) | omega
      · intro z0
        refine b_114_4 _ _ _ ?_ ?_
        · intro z4
          refine b_114_19 _ _ _ (by first | (exact hc_o (by first | assumption | (exact ⟨by decide, rfl⟩))) | assumption | (exact (hc_far (by omega)).trans (by assumption))) (by omega) (by first | rfl | assumption) (by first | (exact hc_o (by first | assumption | (exact ⟨by decide, rfl⟩))) | assumption | (exact (hc_far (by omega)).trans (by assumption))) (by omega) (by first | rfl | assumption) ?_ ?_
          · intro z19
            refine b_114_51 _ _ _ (mi_tq_ok (ce := 14) (by decide +kernel) (by omega) (by omega)) ?_
            refine hw_Q (hc_out (by omega)) ?_
            first | exact K2 2 (by decide) rfl (fun g => (hi7.mpr g).1 z19) | exact K2 2 (by decide) rfl (fun g => z48 (hi7.mpr g).2)
          · intro z19
            refine b_114_31 _ _ _ ?_ ?_
            · intro z31
              refine b_114_44 _ _ _ (by first | (exact hc_o (by first | assumption | (exact ⟨by decide, rfl⟩))) | assumption | (exact (hc_far (by omega)).trans (by assumption))) (by omega) (by first | rfl | assumption) ?_
              refine b_114_48 _ _ _ ?_ ?_
              · intro z48
                obtain ⟨j, hj, rfl⟩ := hi7.mp ⟨z19, z48⟩
                have hix := ix_of (w := j) (m := 148) (by omega) (by omega)
                refine b_114_61 (t5 := 106) _ _ _ (by decide +kernel) ?_
                refine b_114_106 _ _ _ _ _ _ (by first | (exact hc_o (by first | assumption | (exact ⟨by decide, rfl⟩))) | assumption | (exact (hc_far (by omega)).trans (by assumption))) (by omega) (by first | rfl | assumption) (by first | (exact hc_ai (by omega) (by first | assumption | (exact (ht9 (by assumption)).2.1) | (exact (ht9 (by assumption)).2.2.1) | (exact (ht9 (by assumption)).2.2.2) | rfl) (by decide)) | assumption | (exact (hc_far (by omega)).trans (by assumption))) (Or.inl (by omega)) (by first | assumption | (exact ix_of (by omega) (by omega)) | (exact ⟨by decide, rfl, by decide⟩)) ?_
                rw [(hv7 j hj).1]
                exact K0 2 j (by decide) rfl hj rfl
              · intro z48
                refine b_114_51 _ _ _ (mi_tq_ok (ce := 14) (by decide +kernel) (by omega) (by omega)) ?_
                refine hw_Q (hc_out (by omega)) ?_
                first | exact K2 2 (by decide) rfl (fun g => (hi7.mpr g).1 z19) | exact K2 2 (by decide) rfl (fun g => z48 (hi7.mpr g).2)
            · intro z31
              first | (exact absurd z31 (by decide)) | (exact absurd (by decide) z31) | (exact absurd rfl z31) | (exact absurd z31 (of_nn (by omega))) | (exact absurd (of_np (by omega)) z31) | omega
        · intro z4
          first | (exact absurd z4 (by decide)) | (exact absurd (by decide) z4) | (exact absurd rfl z4) | (exact absurd z4 (of_nn (by omega))) | (exact absurd (of_np (by omega)) z4) | omega
    · show mi_W d 114 0 (mi_en 4 [.ref 0, .int 3, .int y]) [] (n, sl, hc a f0) Q
      refine b_114_0 _ _ _ ?_ ?_
      · intro z0
        first | (exact absurd z0 (by decide)) | (exact absurd (by decide) z0) | (exact absurd rfl z0) | (exact absurd z0 (of_nn (by omega))) | (exact absurd (of_np (by omega)) z0) | omega
      · intro z0
        refine b_114_4 _ _ _ ?_ ?_
        · intro z4
          refine b_114_19 _ _ _ (by first | (exact hc_o (by first | assumption | (exact ⟨by decide, rfl⟩))) | assumption | (exact (hc_far (by omega)).trans (by assumption))) (by omega) (by first | rfl | assumption) (by first | (exact hc_o (by first | assumption | (exact ⟨by decide, rfl⟩))) | assumption | (exact (hc_far (by omega)).trans (by assumption))) (by omega) (by first | rfl | assumption) ?_ ?_
          · intro z19
            refine b_114_51 _ _ _ (mi_tq_ok (ce := 14) (by decide +kernel) (by omega) (by omega)) ?_
            refine hw_Q (hc_out (by omega)) ?_
            first | exact K2 3 (by decide) rfl (fun g => (hi7.mpr g).1 z19) | exact K2 3 (by decide) rfl (fun g => z48 (hi7.mpr g).2)
          · intro z19
            refine b_114_31 _ _ _ ?_ ?_
            · intro z31
              refine b_114_44 _ _ _ (by first | (exact hc_o (by first | assumption | (exact ⟨by decide, rfl⟩))) | assumption | (exact (hc_far (by omega)).trans (by assumption))) (by omega) (by first | rfl | assumption) ?_
              refine b_114_48 _ _ _ ?_ ?_
              · intro z48
                obtain ⟨j, hj, rfl⟩ := hi7.mp ⟨z19, z48⟩
                have hix := ix_of (w := j) (m := 148) (by omega) (by omega)
                refine b_114_61 (t5 := 113) _ _ _ (by decide +kernel) ?_
                refine b_114_113 _ _ _ _ _ _ (by first | (exact hc_o (by first | assumption | (exact ⟨by decide, rfl⟩))) | assumption | (exact (hc_far (by omega)).trans (by assumption))) (by omega) (by first | rfl | assumption) (by first | (exact hc_ai (by omega) (by first | assumption | (exact (ht9 (by assumption)).2.1) | (exact (ht9 (by assumption)).2.2.1) | (exact (ht9 (by assumption)).2.2.2) | rfl) (by decide)) | assumption | (exact (hc_far (by omega)).trans (by assumption))) (Or.inl (by omega)) (by first | assumption | (exact ix_of (by omega) (by omega)) | (exact ⟨by decide, rfl, by decide⟩)) ?_
                rw [(hv7 j hj).2.1]
                exact K0 3 j (by decide) rfl hj rfl
              · intro z48
                refine b_114_51 _ _ _ (mi_tq_ok (ce := 14) (by decide +kernel) (by omega) (by omega)) ?_
                refine hw_Q (hc_out (by omega)) ?_
                first | exact K2 3 (by decide) rfl (fun g => (hi7.mpr g).1 z19) | exact K2 3 (by decide) rfl (fun g => z48 (hi7.mpr g).2)
            · intro z31
              first | (exact absurd z31 (by decide)) | (exact absurd (by decide) z31) | (exact absurd rfl z31) | (exact absurd z31 (of_nn (by omega))) | (exact absurd (of_np (by omega)) z31) | omega
        · intro z4
          first | (exact absurd z4 (by decide)) | (exact absurd (by decide) z4) | (exact absurd rfl z4) | (exact absurd z4 (of_nn (by omega))) | (exact absurd (of_np (by omega)) z4) | omega
    · show mi_W d 114 0 (mi_en 4 [.ref 0, .int 4, .int y]) [] (n, sl, hc a f0) Q
      refine b_114_0 _ _ _ ?_ ?_
      · intro z0
        first | (exact absurd z0 (by decide)) | (exact absurd (by decide) z0) | (exact absurd rfl z0) | (exact absurd z0 (of_nn (by omega))) | (exact absurd (of_np (by omega)) z0) | omega
      · intro z0
        refine b_114_4 _ _ _ ?_ ?_
        · intro z4
          refine b_114_19 _ _ _ (by first | (exact hc_o (by first | assumption | (exact ⟨by decide, rfl⟩))) | assumption | (exact (hc_far (by omega)).trans (by assumption))) (by omega) (by first | rfl | assumption) (by first | (exact hc_o (by first | assumption | (exact ⟨by decide, rfl⟩))) | assumption | (exact (hc_far (by omega)).trans (by assumption))) (by omega) (by first | rfl | assumption) ?_ ?_
          · intro z19
            refine b_114_51 _ _ _ (mi_tq_ok (ce := 14) (by decide +kernel) (by omega) (by omega)) ?_
            refine hw_Q (hc_out (by omega)) ?_
            first | exact K2 4 (by decide) rfl (fun g => (hi7.mpr g).1 z19) | exact K2 4 (by decide) rfl (fun g => z48 (hi7.mpr g).2)
          · intro z19
            refine b_114_31 _ _ _ ?_ ?_
            · intro z31
              refine b_114_44 _ _ _ (by first | (exact hc_o (by first | assumption | (exact ⟨by decide, rfl⟩))) | assumption | (exact (hc_far (by omega)).trans (by assumption))) (by omega) (by first | rfl | assumption) ?_
              refine b_114_48 _ _ _ ?_ ?_
              · intro z48
                obtain ⟨j, hj, rfl⟩ := hi7.mp ⟨z19, z48⟩
                have hix := ix_of (w := j) (m := 148) (by omega) (by omega)
                refine b_114_61 (t5 := 120) _ _ _ (by decide +kernel) ?_
                refine b_114_120 _ _ _ _ _ _ (by first | (exact hc_o (by first | assumption | (exact ⟨by decide, rfl⟩))) | assumption | (exact (hc_far (by omega)).trans (by assumption))) (by omega) (by first | rfl | assumption) (by first | (exact hc_ai (by omega) (by first | assumption | (exact (ht9 (by assumption)).2.1) | (exact (ht9 (by assumption)).2.2.1) | (exact (ht9 (by assumption)).2.2.2) | rfl) (by decide)) | assumption | (exact (hc_far (by omega)).trans (by assumption))) (Or.inl (by omega)) (by first | assumption | (exact ix_of (by omega) (by omega)) | (exact ⟨by decide, rfl, by decide⟩)) ?_
                rw [(hv7 j hj).2.2.1]
                exact K0 4 j (by decide) rfl hj rfl
              · intro z48
                refine b_114_51 _ _ _ (mi_tq_ok (ce := 14) (by decide +kernel) (by omega) (by omega)) ?_
                refine hw_Q (hc_out (by omega)) ?_
                first | exact K2 4 (by decide) rfl (fun g => (hi7.mpr g).1 z19) | exact K2 4 (by decide) rfl (fun g => z48 (hi7.mpr g).2)
            · intro z31
              first | (exact absurd z31 (by decide)) | (exact absurd (by decide) z31) | (exact absurd rfl z31) | (exact absurd z31 (of_nn (by omega))) | (exact absurd (of_np (by omega)) z31) | omega
        · intro z4
          first | (exact absurd z4 (by decide)) | (exact absurd (by decide) z4) | (exact absurd rfl z4) | (exact absurd z4 (of_nn (by omega))) | (exact absurd (of_np (by omega)) z4) | omega
  · have hno := K1 hx
    have hm := fun h => hx ((mp_of (p := x) (m := 4) (by decide)).mp h)
    unfold mp_r at hm
    refine b_114_0 _ _ _ ?_ ?_
    · intro z0
      refine b_114_9 _ _ _ (mi_tq_ok (ce := 15) (by decide +kernel) (by omega) (by omega)) ?_
      refine hw_Q (hc_out (by omega)) ?_
      exact hno
    · intro z0
      refine b_114_4 _ _ _ ?_ ?_
      · intro z4
        exact absurd ⟨z0, Int32.not_lt.mpr z4⟩ hm
      · intro z4
        refine b_114_9 _ _ _ (mi_tq_ok (ce := 15) (by decide +kernel) (by omega) (by omega)) ?_
        refine hw_Q (hc_out (by omega)) ?_
        exact hno
theorem cq_step (hn : 575 ≤ n) (hN : n < 601000 ∧ sl ≤ 7293000) (h : cX a fd oc wr w many ins ev re con) (K1 : (¬ ∃ i, i ≤ 2 ∧ x = Int32.ofNat i) → Q (.inr n) (n + 1, sl + 6, hc a (va_up f0 n (.inr (15, []))))) (K2 : ∀ i, i ≤ 2 → x = Int32.ofNat i → (¬ ∃ j, j < mx_fl re ∧ y = Int32.ofNat j) → Q (.inr n) (n + 1, sl + 6, hc a (va_up f0 n (.inr (14, []))))) (K0 : ∀ i j, i ≤ 2 → x = Int32.ofNat i → j < mx_fl re → y = Int32.ofNat j → Q (.inl (some (.long (mx_sv re j i)))) (n, sl, hc a f0)) : mi_W d 132 0 (mi_en 3 [.ref 0, .int y, .int x]) [] (n, sl, hc a f0) Q := by
  obtain ⟨e11, h11, hv⟩ := h.2.2.2.2.2.1.fl
  have hi := mx_ix (y := y) (c := mx_fl re) (by omega)
  rw [← e11] at hi
  by_cases hx : ∃ i, i ≤ 2 ∧ x = Int32.ofNat i
  · obtain ⟨i, hi4, rfl⟩ := hx
    rcases (by omega : i = 0 ∨ i = 1 ∨ i = 2) with rfl | rfl | rfl
    · show mi_W d 132 0 (mi_en 3 [.ref 0, .int y, .int 0]) [] (n, sl, hc a f0) Q
      refine b_132_0 _ _ _ ?_ ?_
      · intro z0
        first | (exact absurd z0 (by decide)) | (exact absurd (by decide) z0) | (exact absurd rfl z0) | (exact absurd z0 (of_nn (by omega))) | (exact absurd (of_np (by omega)) z0) | omega
      · intro z0
        refine b_132_4 _ _ _ ?_ ?_
        · intro z4
          refine b_132_19 _ _ _ ?_ ?_
          · intro z19
            refine b_132_34 _ _ _ (mi_tq_ok (ce := 14) (by decide +kernel) (by omega) (by omega)) ?_
            refine hw_Q (hc_out (by omega)) ?_
            first | exact K2 0 (by decide) rfl (fun g => (hi.mpr g).1 z19) | exact K2 0 (by decide) rfl (fun g => z23 (hi.mpr g).2)
          · intro z19
            refine b_132_23 _ _ _ (by first | (exact hc_o (by first | assumption | (exact ⟨by decide, rfl⟩))) | assumption | (exact (hc_far (by omega)).trans (by assumption))) (by omega) (by first | rfl | assumption) (by first | (exact hc_o (by first | assumption | (exact ⟨by decide, rfl⟩))) | assumption | (exact (hc_far (by omega)).trans (by assumption))) (by omega) (by first | rfl | assumption) ?_ ?_
            · intro z23
              obtain ⟨j, hj, rfl⟩ := hi.mp ⟨z19, z23⟩
              have hix := ix_of (w := j) (m := 104) (by omega) (by omega)
              refine b_132_44 (t4 := 72) _ _ _ (by decide +kernel) ?_
              refine b_132_72 _ _ _ _ _ _ (by first | (exact hc_o (by first | assumption | (exact ⟨by decide, rfl⟩))) | assumption | (exact (hc_far (by omega)).trans (by assumption))) (by omega) (by first | rfl | assumption) (by first | (exact hc_o (by first | assumption | (exact ⟨by decide, rfl⟩))) | assumption | (exact (hc_far (by omega)).trans (by assumption))) (by omega) (by first | rfl | assumption) (by first | (exact hc_ai (by omega) (by first | assumption | (exact (ht9 (by assumption)).2.1) | (exact (ht9 (by assumption)).2.2.1) | (exact (ht9 (by assumption)).2.2.2) | rfl) (by decide)) | assumption | (exact (hc_far (by omega)).trans (by assumption))) (Or.inl (by omega)) (by first | assumption | (exact ix_of (by omega) (by omega)) | (exact ⟨by decide, rfl, by decide⟩)) ?_
              rw [(hv j hj).1]
              exact K0 0 j (by decide) rfl hj rfl
            · intro z23
              refine b_132_34 _ _ _ (mi_tq_ok (ce := 14) (by decide +kernel) (by omega) (by omega)) ?_
              refine hw_Q (hc_out (by omega)) ?_
              first | exact K2 0 (by decide) rfl (fun g => (hi.mpr g).1 z19) | exact K2 0 (by decide) rfl (fun g => z23 (hi.mpr g).2)
        · intro z4
          first | (exact absurd z4 (by decide)) | (exact absurd (by decide) z4) | (exact absurd rfl z4) | (exact absurd z4 (of_nn (by omega))) | (exact absurd (of_np (by omega)) z4) | omega
    · show mi_W d 132 0 (mi_en 3 [.ref 0, .int y, .int 1]) [] (n, sl, hc a f0) Q
      refine b_132_0 _ _ _ ?_ ?_
      · intro z0
        first | (exact absurd z0 (by decide)) | (exact absurd (by decide) z0) | (exact absurd rfl z0) | (exact absurd z0 (of_nn (by omega))) | (exact absurd (of_np (by omega)) z0) | omega
      · intro z0
        refine b_132_4 _ _ _ ?_ ?_
        · intro z4
          refine b_132_19 _ _ _ ?_ ?_
          · intro z19
            refine b_132_34 _ _ _ (mi_tq_ok (ce := 14) (by decide +kernel) (by omega) (by omega)) ?_
            refine hw_Q (hc_out (by omega)) ?_
            first | exact K2 1 (by decide) rfl (fun g => (hi.mpr g).1 z19) | exact K2 1 (by decide) rfl (fun g => z23 (hi.mpr g).2)
          · intro z19
            refine b_132_23 _ _ _ (by first | (exact hc_o (by first | assumption | (exact ⟨by decide, rfl⟩))) | assumption | (exact (hc_far (by omega)).trans (by assumption))) (by omega) (by first | rfl | assumption) (by first | (exact hc_o (by first | assumption | (exact ⟨by decide, rfl⟩))) | assumption | (exact (hc_far (by omega)).trans (by assumption))) (by omega) (by first | rfl | assumption) ?_ ?_
            · intro z23
              obtain ⟨j, hj, rfl⟩ := hi.mp ⟨z19, z23⟩
              have hix := ix_of (w := j) (m := 104) (by omega) (by omega)
              refine b_132_44 (t4 := 83) _ _ _ (by decide +kernel) ?_
              refine b_132_83 _ _ _ _ _ _ (by first | (exact hc_o (by first | assumption | (exact ⟨by decide, rfl⟩))) | assumption | (exact (hc_far (by omega)).trans (by assumption))) (by omega) (by first | rfl | assumption) (by first | (exact hc_o (by first | assumption | (exact ⟨by decide, rfl⟩))) | assumption | (exact (hc_far (by omega)).trans (by assumption))) (by omega) (by first | rfl | assumption) (by first | (exact hc_al (by omega) (by first | assumption | (exact (ht9 (by assumption)).2.1) | (exact (ht9 (by assumption)).2.2.1) | (exact (ht9 (by assumption)).2.2.2) | rfl)) | assumption | (exact (hc_far (by omega)).trans (by assumption))) (by omega) (by first | assumption | (exact ix_of (by omega) (by omega)) | (exact ⟨by decide, rfl, by decide⟩)) ?_
              rw [(hv j hj).2.1]
              exact K0 1 j (by decide) rfl hj rfl
            · intro z23
              refine b_132_34 _ _ _ (mi_tq_ok (ce := 14) (by decide +kernel) (by omega) (by omega)) ?_
              refine hw_Q (hc_out (by omega)) ?_
              first | exact K2 1 (by decide) rfl (fun g => (hi.mpr g).1 z19) | exact K2 1 (by decide) rfl (fun g => z23 (hi.mpr g).2)
        · intro z4
          first | (exact absurd z4 (by decide)) | (exact absurd (by decide) z4) | (exact absurd rfl z4) | (exact absurd z4 (of_nn (by omega))) | (exact absurd (of_np (by omega)) z4) | omega
    · show mi_W d 132 0 (mi_en 3 [.ref 0, .int y, .int 2]) [] (n, sl, hc a f0) Q
      refine b_132_0 _ _ _ ?_ ?_
      · intro z0
        first | (exact absurd z0 (by decide)) | (exact absurd (by decide) z0) | (exact absurd rfl z0) | (exact absurd z0 (of_nn (by omega))) | (exact absurd (of_np (by omega)) z0) | omega
      · intro z0
        refine b_132_4 _ _ _ ?_ ?_
        · intro z4
          refine b_132_19 _ _ _ ?_ ?_
          · intro z19
            refine b_132_34 _ _ _ (mi_tq_ok (ce := 14) (by decide +kernel) (by omega) (by omega)) ?_
            refine hw_Q (hc_out (by omega)) ?_
            first | exact K2 2 (by decide) rfl (fun g => (hi.mpr g).1 z19) | exact K2 2 (by decide) rfl (fun g => z23 (hi.mpr g).2)
          · intro z19
            refine b_132_23 _ _ _ (by first | (exact hc_o (by first | assumption | (exact ⟨by decide, rfl⟩))) | assumption | (exact (hc_far (by omega)).trans (by assumption))) (by omega) (by first | rfl | assumption) (by first | (exact hc_o (by first | assumption | (exact ⟨by decide, rfl⟩))) | assumption | (exact (hc_far (by omega)).trans (by assumption))) (by omega) (by first | rfl | assumption) ?_ ?_
            · intro z23
              obtain ⟨j, hj, rfl⟩ := hi.mp ⟨z19, z23⟩
              have hix := ix_of (w := j) (m := 104) (by omega) (by omega)
              refine b_132_44 (t4 := 93) _ _ _ (by decide +kernel) ?_
              refine b_132_93 _ _ _ _ _ _ (by first | (exact hc_o (by first | assumption | (exact ⟨by decide, rfl⟩))) | assumption | (exact (hc_far (by omega)).trans (by assumption))) (by omega) (by first | rfl | assumption) (by first | (exact hc_o (by first | assumption | (exact ⟨by decide, rfl⟩))) | assumption | (exact (hc_far (by omega)).trans (by assumption))) (by omega) (by first | rfl | assumption) (by first | (exact hc_ai (by omega) (by first | assumption | (exact (ht9 (by assumption)).2.1) | (exact (ht9 (by assumption)).2.2.1) | (exact (ht9 (by assumption)).2.2.2) | rfl) (by decide)) | assumption | (exact (hc_far (by omega)).trans (by assumption))) (Or.inl (by omega)) (by first | assumption | (exact ix_of (by omega) (by omega)) | (exact ⟨by decide, rfl, by decide⟩)) ?_
              rw [(hv j hj).2.2]
              exact K0 2 j (by decide) rfl hj rfl
            · intro z23
              refine b_132_34 _ _ _ (mi_tq_ok (ce := 14) (by decide +kernel) (by omega) (by omega)) ?_
              refine hw_Q (hc_out (by omega)) ?_
              first | exact K2 2 (by decide) rfl (fun g => (hi.mpr g).1 z19) | exact K2 2 (by decide) rfl (fun g => z23 (hi.mpr g).2)
        · intro z4
          first | (exact absurd z4 (by decide)) | (exact absurd (by decide) z4) | (exact absurd rfl z4) | (exact absurd z4 (of_nn (by omega))) | (exact absurd (of_np (by omega)) z4) | omega
  · have hno := K1 hx
    have hm := fun h => hx ((mp_of (p := x) (m := 2) (by decide)).mp h)
    unfold mp_r at hm
    refine b_132_0 _ _ _ ?_ ?_
    · intro z0
      refine b_132_9 _ _ _ (mi_tq_ok (ce := 15) (by decide +kernel) (by omega) (by omega)) ?_
      refine hw_Q (hc_out (by omega)) ?_
      exact hno
    · intro z0
      refine b_132_4 _ _ _ ?_ ?_
      · intro z4
        exact absurd ⟨z0, Int32.not_lt.mpr z4⟩ hm
      · intro z4
        refine b_132_9 _ _ _ (mi_tq_ok (ce := 15) (by decide +kernel) (by omega) (by omega)) ?_
        refine hw_Q (hc_out (by omega)) ?_
        exact hno
end
