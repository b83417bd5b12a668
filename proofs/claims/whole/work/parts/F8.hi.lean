/-! the first object: feed -/
def mx_by (l s : Int32) : Int32 := vp_nar .byte ((l >>> (s &&& 31)).toInt8.toInt32)
def mx_wd (x1 x2 x3 x4 x5 : Int32) (i : Nat) : Int32 := if i < 4 then x1 else if i < 8 then x2 else if i < 12 then x3 else if i < 16 then x4 else x5
def mx_fe (oc : Nat → Int32) (fd : Nat) (x1 x2 x3 x4 x5 : Int32) (k : Nat) : Int32 := if k < fd then oc k else mx_by (mx_wd x1 x2 x3 x4 x5 (k - fd)) (Int32.ofNat (24 - 8 * ((k - fd) % 4)))
def cOf (a a' : mh_A) : Prop := ∀ c r, ¬ (c = 1 ∧ r = 1) → cEq a a' c r
section
variable {d e n sl fd many k m : Nat} {a a1 a2 a' : mh_A} {f0 : Nat → mi_C} {Q : (Option Value ⊕ Nat) → mi_H → Prop} {oc : Nat → Int32} {wr l s x1 x2 x3 x4 x5 : Int32} {w : Nat → Int64} {ins : Nat → mv_I} {ev : mv_Z} {re : ma_R} {con : Option mx_K}
theorem cOf.trans (h : cOf a a1) (h' : cOf a1 a2) : cOf a a2 := fun c r hc => (h c r hc).trans (h' c r hc)
theorem cs_add1 (hn : 575 ≤ n) (h : cFe a m oc) (hm : m < 8200) (hs : ¬ s < 0) (ho : oc m = mx_by l s) (K : ∀ a', cFe a' (m + 1) oc → cOf a a' → mi_W d 15 3 [some (.ref 1), some (.int l), some (.int (s + (-8)))] [] (n, sl, hc a' f0) Q) : mi_W d 15 3 [some (.ref 1), some (.int l), some (.int s)] [] (n, sl, hc a f0) Q := by
  have e1 : a.I 1 1 1 = Int32.ofNat m := h.1
  have hix : mi_ix (a.I 1 1 1) 8200 m := by
    rw [e1]
    exact ix_of (by omega) (by omega)
  refine b_15_3 _ _ _ ?_ ?_
  · intro z3
    exact absurd z3 hs
  · intro z3
    refine b_15_7 _ _ _ (by first | (exact hc_o (by first | assumption | (exact ⟨by decide, rfl⟩))) | assumption | (exact (hc_far (by omega)).trans (by assumption))) (by omega) (by first | rfl | assumption) ?_ ?_
    · intro z7
      exact absurd z7 (by rw [e1]; exact of_nn (by omega))
    · intro z7
      refine b_15_14 _ _ _ (by first | (exact hc_o (by first | assumption | (exact ⟨by decide, rfl⟩))) | assumption | (exact (hc_far (by omega)).trans (by assumption))) (by omega) (by first | rfl | assumption) ?_ ?_
      · intro z14
        exact absurd ((i_le (show (8200 : Int32) = Int32.ofNat 8200 from rfl) e1 (by omega) (by omega)).mp z14) (by omega)
      · intro z14
        refine b_15_24 _ _ _ _ _ _ (by first | (exact hc_o (by first | assumption | (exact ⟨by decide, rfl⟩))) | assumption | (exact (hc_far (by omega)).trans (by assumption))) (by omega) (by first | rfl | assumption) (by first | (exact hc_o (by first | assumption | (exact ⟨by decide, rfl⟩))) | assumption | (exact (hc_far (by omega)).trans (by assumption))) (by omega) (by first | rfl | assumption) (by first | (exact hc_ai (by omega) (by first | assumption | (exact (ht9 (by assumption)).2.1) | (exact (ht9 (by assumption)).2.2.1) | (exact (ht9 (by assumption)).2.2.2) | rfl) (by decide)) | assumption | (exact (hc_far (by omega)).trans (by assumption))) (by omega) (by first | assumption | (exact ix_of (by omega) (by omega)) | (exact ⟨by decide, rfl, by decide⟩)) (by first | (exact (congrFun (hw_AI (by omega) (by first | assumption | (exact (ht9 (by assumption)).2.1) | (exact (ht9 (by assumption)).2.2.1) | (exact (ht9 (by assumption)).2.2.2) | rfl) (by decide)) _).trans (hc_o (by first | assumption | (exact ⟨by decide, rfl⟩)))) | assumption | (exact (hc_far (by omega)).trans (by assumption))) (by omega) (by first | rfl | assumption) (by first | (exact (congrFun (hw_AI (by omega) (by first | assumption | (exact (ht9 (by assumption)).2.1) | (exact (ht9 (by assumption)).2.2.1) | (exact (ht9 (by assumption)).2.2.2) | rfl) (by decide)) _).trans (hc_o (by first | assumption | (exact ⟨by decide, rfl⟩)))) | assumption | (exact (hc_far (by omega)).trans (by assumption))) (by omega) (Nat.le_of_ble_eq_true rfl) ?_
        refine hw_W (hw_2 (hw_AI (by omega) (by first | assumption | (exact (ht9 (by assumption)).2.1) | (exact (ht9 (by assumption)).2.2.1) | (exact (ht9 (by assumption)).2.2.2) | rfl) (by decide)) (hw_I (by first | assumption | (exact ⟨by decide, rfl⟩)) (by decide))) ?_
        refine K _ ⟨?_, by omega, fun k hk => ?_⟩ (fun c r hcr k => ⟨?_, rfl, ?_, rfl⟩)
        · show a.I 1 1 1 + 1 = _
          rw [e1, of_succ]
        · show upd (a.AI 1 1 0) m _ k = oc k
          by_cases e : k = m
          · rw [e, upd_at, ho]
            rfl
          · rw [upd_ne e]
            exact h.2.2 k (by omega)
        · exact mh_u_x (fun e => hcr ⟨e.1, e.2.1⟩)
        · exact mh_u_x (fun e => hcr ⟨e.1, e.2.1⟩)
theorem cs_add4 (hn : 575 ≤ n) (h : cFe a m oc) (hm : m + 4 ≤ 8200) (ho : ∀ j, j < 4 → oc (m + j) = mx_by l (Int32.ofNat (24 - 8 * j))) (K : ∀ a', cFe a' (m + 4) oc → cOf a a' → Q (.inl none) (n, sl, hc a' f0)) : mi_W d 15 0 (mi_en 3 [.ref 1, .int l]) [] (n, sl, hc a f0) Q := by
  refine b_15_0 _ _ _ ?_
  refine cs_add1 hn h (by omega) (by decide) (ho 0 (by decide)) (fun a1 h1 f1 => ?_)
  refine cs_add1 hn h1 (by omega) (by decide) (ho 1 (by decide)) (fun a2 h2 f2 => ?_)
  refine cs_add1 hn h2 (by omega) (by decide) (ho 2 (by decide)) (fun a3 h3 f3 => ?_)
  refine cs_add1 hn h3 (by omega) (by decide) (ho 3 (by decide)) (fun a4 h4 f4 => ?_)
  have k4 := K a4 h4 (((f1.trans f2).trans f3).trans f4)
  refine b_15_3 _ _ _ ?_ ?_
  · intro _
    refine b_15_53 _ _ _ ?_
    exact k4
  · intro z
    exact absurd (by decide) z
theorem cX.of (h : cX a fd oc wr w many ins ev re con) (f : cOf a a1) {fd' : Nat} {oc' : Nat → Int32} (hF : cFe a1 fd' oc') : cX a1 fd' oc' wr w many ins ev re con := by
  refine ⟨hF, (f 3 15 (by decide) 6).1.trans h.2.1, h.2.2.1.to (f 5 32 (by decide) 0).2.2.2, h.2.2.2.1.to (f 6 35 (by decide)), h.2.2.2.2.1.to' (f 8 42 (by decide)), h.2.2.2.2.2.1.to (f 11 54 (by decide)), ?_⟩
  refine h.2.2.2.2.2.2.to ?_ ?_ ?_ ?_ ?_ ?_ ?_ <;> exact f _ _ (by decide)
theorem mx_wd4 {i j : Nat} (hj : j < 4) : mx_wd x1 x2 x3 x4 x5 (4 * i + j) = mx_wd x1 x2 x3 x4 x5 (4 * i) := by
  unfold mx_wd
  simp only [show (4 * i + j < 4) ↔ (4 * i < 4) by omega, show (4 * i + j < 8) ↔ (4 * i < 8) by omega, show (4 * i + j < 12) ↔ (4 * i < 12) by omega, show (4 * i + j < 16) ↔ (4 * i < 16) by omega]
theorem cq_feed (hn : 575 ≤ n) (hN : n < 601000 ∧ sl ≤ 7293000) (h : cX a fd oc wr w many ins ev re con) (K1 : ¬ fd + 20 ≤ 8200 → Q (.inr n) (n + 1, sl + 6, hc a (va_up f0 n (.inr (14, []))))) (K0 : fd + 20 ≤ 8200 → ∀ a', cX a' (fd + 20) (mx_fe oc fd x1 x2 x3 x4 x5) wr w many ins ev re con → Q (.inl (some (.int (Int32.ofNat (fd + 20))))) (n, sl, hc a' f0)) : mi_W (d + 1) 14 0 (mi_en 6 [.ref 0, .int x1, .int x2, .int x3, .int x4, .int x5]) [] (n, sl, hc a f0) Q := by
  have e1 : a.I 1 1 1 = Int32.ofNat fd := h.1.1
  have h82 := h.1.2.1
  have e20 : a.I 1 1 1 + 20 = Int32.ofNat (fd + 20) := by
    rw [e1, show (20 : Int32) = Int32.ofNat 20 from rfl, of_add']
  have hi := i_le e20 (show (8200 : Int32) = Int32.ofNat 8200 from rfl) (by omega) (by omega)
  have ho : ∀ (i : Nat) (y : Int32), i < 5 → mx_wd x1 x2 x3 x4 x5 (4 * i) = y → ∀ j, j < 4 → mx_fe oc fd x1 x2 x3 x4 x5 (fd + 4 * i + j) = mx_by y (Int32.ofNat (24 - 8 * j)) := by
    intro i y hi hy j hj
    unfold mx_fe
    rw [if_neg (by omega), show fd + 4 * i + j - fd = 4 * i + j by omega, mx_wd4 hj, hy, show (4 * i + j) % 4 = j by omega]
  have h0 : cFe a fd (mx_fe oc fd x1 x2 x3 x4 x5) := ⟨e1, h82, fun k hk => by
    unfold mx_fe
    rw [if_pos hk]
    exact h.1.2.2 k hk⟩
  refine b_14_0 _ _ _ (by first | (exact hc_o (by first | assumption | (exact ⟨by decide, rfl⟩))) | assumption | (exact (hc_far (by omega)).trans (by assumption))) (by omega) (by first | rfl | assumption) (by first | (exact hc_o (by first | assumption | (exact ⟨by decide, rfl⟩))) | assumption | (exact (hc_far (by omega)).trans (by assumption))) (by omega) (by first | rfl | assumption) ?_ ?_
  · intro z0
    have hfd := hi.mp z0
    refine b_14_26 _ _ _ (by first | (exact hc_o (by first | assumption | (exact ⟨by decide, rfl⟩))) | assumption | (exact (hc_far (by omega)).trans (by assumption))) (by omega) (by first | rfl | assumption) (by first | (exact hc_o (by first | assumption | (exact ⟨by decide, rfl⟩))) | assumption | (exact (hc_far (by omega)).trans (by assumption))) (by omega) ?_
    refine cs_add4 hn h0 (by omega) (ho 0 x1 (by decide) rfl) (fun a1 h1 f1 => ?_)
    refine b_14_34 _ _ _ (by first | (exact hc_o (by first | assumption | (exact ⟨by decide, rfl⟩))) | assumption | (exact (hc_far (by omega)).trans (by assumption))) (by omega) (by first | rfl | assumption) (by first | (exact hc_o (by first | assumption | (exact ⟨by decide, rfl⟩))) | assumption | (exact (hc_far (by omega)).trans (by assumption))) (by omega) ?_
    refine cs_add4 hn h1 (by omega) (ho 1 x2 (by decide) rfl) (fun a2 h2 f2 => ?_)
    refine b_14_42 _ _ _ (by first | (exact hc_o (by first | assumption | (exact ⟨by decide, rfl⟩))) | assumption | (exact (hc_far (by omega)).trans (by assumption))) (by omega) (by first | rfl | assumption) (by first | (exact hc_o (by first | assumption | (exact ⟨by decide, rfl⟩))) | assumption | (exact (hc_far (by omega)).trans (by assumption))) (by omega) ?_
    refine cs_add4 hn h2 (by omega) (ho 2 x3 (by decide) rfl) (fun a3 h3 f3 => ?_)
    refine b_14_50 _ _ _ (by first | (exact hc_o (by first | assumption | (exact ⟨by decide, rfl⟩))) | assumption | (exact (hc_far (by omega)).trans (by assumption))) (by omega) (by first | rfl | assumption) (by first | (exact hc_o (by first | assumption | (exact ⟨by decide, rfl⟩))) | assumption | (exact (hc_far (by omega)).trans (by assumption))) (by omega) ?_
    refine cs_add4 hn h3 (by omega) (ho 3 x4 (by decide) rfl) (fun a4 h4 f4 => ?_)
    refine b_14_59 _ _ _ (by first | (exact hc_o (by first | assumption | (exact ⟨by decide, rfl⟩))) | assumption | (exact (hc_far (by omega)).trans (by assumption))) (by omega) (by first | rfl | assumption) (by first | (exact hc_o (by first | assumption | (exact ⟨by decide, rfl⟩))) | assumption | (exact (hc_far (by omega)).trans (by assumption))) (by omega) ?_
    refine cs_add4 hn h4 (by omega) (ho 4 x5 (by decide) rfl) (fun a5 h5 f5 => ?_)
    refine b_14_68 _ _ _ (by first | (exact hc_o (by first | assumption | (exact ⟨by decide, rfl⟩))) | assumption | (exact (hc_far (by omega)).trans (by assumption))) (by omega) (by first | rfl | assumption) (by first | (exact hc_o (by first | assumption | (exact ⟨by decide, rfl⟩))) | assumption | (exact (hc_far (by omega)).trans (by assumption))) (by omega) (by first | rfl | assumption) ?_
    rw [h5.1]
    exact K0 hfd a5 (h.of ((((f1.trans f2).trans f3).trans f4).trans f5) h5)
  · intro z0
    refine b_14_16 _ _ _ (mi_tq_ok (ce := 14) (by decide +kernel) (by omega) (by omega)) ?_
    refine hw_Q (hc_out (by omega)) ?_
    exact K1 (fun g => z0 (hi.mpr g))
end
