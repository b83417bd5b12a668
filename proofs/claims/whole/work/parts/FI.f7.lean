/-! the second object: analyse -/
def mg_A.sD (b : mg_A) (D : Nat → Nat) : mg_A := (b.1, b.2.1, b.2.2.1, b.2.2.2.1, b.2.2.2.2.1, b.2.2.2.2.2.1, D)
/-- bounds for what may come -/
def mg_gh (D : Nat → Nat) (x y : Nat) (q : Nat) : Nat := if q = 0 then x else if q = 1 then y else D q
/-- a block of arrays at A was written -/
def gCy (A : Nat) (b b1 : mg_A) : Prop := (∀ q, q < A ∨ A + 3 < q → b1.I q = b.I q) ∧ (∀ q, ¬ q = A + 4 → b1.J q = b.J q) ∧ b1.P = b.P ∧ b1.L = b.L ∧ b1.s = b.s ∧ b1.B = b.B ∧ b1.D = b.D
/-- what analyse leaves as it is -/
def gAn (b b' : mg_A) : Prop := (∀ q, (505 < q ∧ q < 543) ∨ (555 < q ∧ q < 562) → b'.I q = b.I q) ∧ (∀ q, (505 < q ∧ q < 548) ∨ q = 550 ∨ q = 561 → b'.J q = b.J q) ∧ (∀ j, (0 < j ∧ j < 43) ∨ j = 65 ∨ j = 66 → b'.I 505 j = b.I 505 j) ∧ ∀ k, b'.P k 531 = b.P k 531 ∧ b'.L k 531 = b.L k 531
section
variable {d e r n sl n' sl' fd many A q k u ee : Nat} {b b1 b2 b' : mg_A} {f0 : Nat → mi_C} {Q : (Option Value ⊕ Nat) → mi_H → Prop} {oc : Nat → Int32} {wr l3 : Int32} {w : Nat → Int64} {ins : Nat → mv_I} {ev : mv_Z} {re re' : ma_R} {K : mx_K} {D : Nat → Nat} {pl : Nat → Nat} {o4 : Option Value}
theorem hd_D (h : ∀ q, 575 ≤ q → D q = b.D q) : hd (b.sD D) f0 = hd b f0 := by
  funext q
  unfold hd
  split
  · rfl
  · have e : mg_t (b.sD D).D q = mg_t b.D q := by
      unfold mg_t
      split
      · rfl
      · rw [show (b.sD D).D q = D q from rfl, h q (by omega)]
    rw [e]
    rfl
theorem mg_gh_D {x y : Nat} (hq : 575 ≤ q) : mg_gh D x y q = D q := by
  unfold mg_gh
  rw [if_neg (by omega), if_neg (by omega)]
theorem mg_o_gh {x y p : Nat} (h : mg_o D p) : mg_o (mg_gh D x y) p := by
  have e : ∀ q, mg_t (mg_gh D x y) q = mg_t D q := fun q => by
    unfold mg_t
    split
    · rfl
    · rw [mg_gh_D (by omega)]
  unfold mg_o
  rw [e, e, e, e, e, e]
  exact h
theorem gBy.gh {x y : Nat} (h : gBy n sl b u pl) (h1 : n + 6 * (104 - u) ≤ x) (h2 : x ≤ mi_NC) (h3 : sl + 71 * (104 - u) ≤ y) (h4 : y ≤ mi_NS) : gBy n sl (b.sD (mg_gh b.D x y)) u pl := by
  obtain ⟨g1, g2, g3, g4, g5, -, -, g8⟩ := h
  refine ⟨fun i hi => ?_, g2, g3, fun q hq => ?_, g5, ⟨h1, h2⟩, ⟨h3, h4⟩, g8⟩
  · obtain ⟨k1, k2, k3, k4⟩ := g1 i hi
    exact ⟨k1, k2, k3, mg_o_gh k4⟩
  · rw [show (b.sD (mg_gh b.D x y)).D q = mg_gh b.D x y q from rfl, mg_gh_D (by omega)]
    exact g4 q hq
theorem gCy.r0 : gCy A b b := ⟨fun _ _ => rfl, fun _ _ => rfl, rfl, rfl, rfl, rfl, rfl⟩
theorem gCy.trans (h : gCy A b b1) (h' : gCy A b1 b2) : gCy A b b2 := ⟨fun q hq => (h'.1 q hq).trans (h.1 q hq), fun q hq => (h'.2.1 q hq).trans (h.2.1 q hq), h'.2.2.1.trans h.2.2.1, h'.2.2.2.1.trans h.2.2.2.1, h'.2.2.2.2.1.trans h.2.2.2.2.1, h'.2.2.2.2.2.1.trans h.2.2.2.2.2.1, h'.2.2.2.2.2.2.trans h.2.2.2.2.2.2⟩
theorem gCy.sI {g : Nat → Int32} (hq : A ≤ q ∧ q ≤ A + 3) : gCy A b (b.sI q g) := ⟨fun q' h => va_ne (by omega), fun _ _ => rfl, rfl, rfl, rfl, rfl, rfl⟩
theorem gCy.sJ {g : Nat → Int64} (hq : q = A + 4) : gCy A b (b.sJ q g) := ⟨fun _ _ => rfl, fun q' h => va_ne (by omega), rfl, rfl, rfl, rfl, rfl⟩
theorem g_ka (hn : 575 ≤ n) (hm : many ≤ 16) (K : ∀ b1 l3, gCy 569 b b1 → (∀ i, i < many → b1.I 569 i = b.I 551 i ∧ b1.I 570 i = b.I 552 i ∧ b1.I 571 i = b.I 553 i ∧ b1.I 572 i = b.I 554 i ∧ b1.J 573 i = b.J 555 i) → mi_W d 194 141 [some (.ref 505), some (.int (Int32.ofNat many)), some (.int l3), o4] [] (n, sl, hd b1 f0) Q) : ∀ (t k : Nat) (b1 : mg_A), k + t = many → gCy 569 b b1 → (∀ i, i < k → b1.I 569 i = b.I 551 i ∧ b1.I 570 i = b.I 552 i ∧ b1.I 571 i = b.I 553 i ∧ b1.I 572 i = b.I 554 i ∧ b1.J 573 i = b.J 555 i) → mi_W d 194 70 [some (.ref 505), some (.int (Int32.ofNat many)), some (.int (Int32.ofNat k)), o4] [] (n, sl, hd b1 f0) Q := by
  intro t
  induction t with
  | zero =>
    intro k b1 hk f1 h1
    have hi := i_le (show Int32.ofNat many = Int32.ofNat many from rfl) (show Int32.ofNat k = Int32.ofNat k from rfl) (by omega) (by omega)
    refine b_194_70 _ _ _ ?_ ?_
    · intro z70
      exact K b1 _ f1 (fun i hi => h1 i (by omega))
    · intro z70
      exact absurd (hi.mpr (by omega)) z70
  | succ t ih =>
    intro k b1 hk f1 h1
    have hi := i_le (show Int32.ofNat many = Int32.ofNat many from rfl) (show Int32.ofNat k = Int32.ofNat k from rfl) (by omega) (by omega)
    have hix := ix_of (w := k) (m := 16) (by omega) (by omega)
    have e0 := f1.1 551 (by omega)
    have e1 := f1.1 552 (by omega)
    have e2 := f1.1 553 (by omega)
    have e3 := f1.1 554 (by omega)
    have e4 := f1.2.1 555 (by omega)
    refine b_194_70 _ _ _ ?_ ?_
    · intro z70
      exact absurd (hi.mp z70) (by omega)
    · intro z70
      refine b_194_75 _ _ _ _ _ _ _ _ _ _ _ _ _ _ _ _ _ _ _ _ _ _ _ _ _ _ _ _ _ _ _ _ _ (by first | (exact hd_9) | assumption) (by omega) (by exact mL_get (by decide)) (by first | (exact hd_9) | assumption) (by omega) (by exact mL_get (by decide)) (by first | (exact hd_I (by omega) rfl) | assumption) (Or.inl (by omega)) (by first | assumption | (exact ix_of (by omega) (by omega)) | (exact ⟨by decide, rfl, by decide⟩)) (by first | (exact hd_I (by omega) rfl) | assumption) (by omega) (by first | assumption | (exact ix_of (by omega) (by omega)) | (exact ⟨by decide, rfl, by decide⟩)) (by first | (exact (congrFun (gw_I (by omega) rfl) _).trans (hd_9)) | assumption) (by omega) (by exact mL_get (by decide)) (by first | (exact (congrFun (gw_I (by omega) rfl) _).trans (hd_9)) | assumption) (by omega) (by exact mL_get (by decide)) (by first | (exact (congrFun (gw_I (by omega) rfl) _).trans (hd_I (by omega) rfl)) | assumption) (Or.inl (by omega)) (by first | assumption | (exact ix_of (by omega) (by omega)) | (exact ⟨by decide, rfl, by decide⟩)) (by first | (exact (congrFun (gw_I (by omega) rfl) _).trans (hd_I (by omega) rfl)) | assumption) (by omega) (by first | assumption | (exact ix_of (by omega) (by omega)) | (exact ⟨by decide, rfl, by decide⟩)) (by first | (exact (congrFun (hw_2 (gw_I (by omega) rfl) (gw_I (by omega) rfl)) _).trans (hd_9)) | assumption) (by omega) (by exact mL_get (by decide)) (by first | (exact (congrFun (hw_2 (gw_I (by omega) rfl) (gw_I (by omega) rfl)) _).trans (hd_9)) | assumption) (by omega) (by exact mL_get (by decide)) (by first | (exact (congrFun (hw_2 (gw_I (by omega) rfl) (gw_I (by omega) rfl)) _).trans (hd_I (by omega) rfl)) | assumption) (Or.inl (by omega)) (by first | assumption | (exact ix_of (by omega) (by omega)) | (exact ⟨by decide, rfl, by decide⟩)) (by first | (exact (congrFun (hw_2 (gw_I (by omega) rfl) (gw_I (by omega) rfl)) _).trans (hd_I (by omega) rfl)) | assumption) (by omega) (by first | assumption | (exact ix_of (by omega) (by omega)) | (exact ⟨by decide, rfl, by decide⟩)) (by first | (exact (congrFun (hw_2 (hw_2 (gw_I (by omega) rfl) (gw_I (by omega) rfl)) (gw_I (by omega) rfl)) _).trans (hd_9)) | assumption) (by omega) (by exact mL_get (by decide)) (by first | (exact (congrFun (hw_2 (hw_2 (gw_I (by omega) rfl) (gw_I (by omega) rfl)) (gw_I (by omega) rfl)) _).trans (hd_9)) | assumption) (by omega) (by exact mL_get (by decide)) (by first | (exact (congrFun (hw_2 (hw_2 (gw_I (by omega) rfl) (gw_I (by omega) rfl)) (gw_I (by omega) rfl)) _).trans (hd_I (by omega) rfl)) | assumption) (Or.inl (by omega)) (by first | assumption | (exact ix_of (by omega) (by omega)) | (exact ⟨by decide, rfl, by decide⟩)) (by first | (exact (congrFun (hw_2 (hw_2 (gw_I (by omega) rfl) (gw_I (by omega) rfl)) (gw_I (by omega) rfl)) _).trans (hd_I (by omega) rfl)) | assumption) (by omega) (by first | assumption | (exact ix_of (by omega) (by omega)) | (exact ⟨by decide, rfl, by decide⟩)) (by first | (exact (congrFun (hw_2 (hw_2 (hw_2 (gw_I (by omega) rfl) (gw_I (by omega) rfl)) (gw_I (by omega) rfl)) (gw_I (by omega) rfl)) _).trans (hd_9)) | assumption) (by omega) (by exact mL_get (by decide)) (by first | (exact (congrFun (hw_2 (hw_2 (hw_2 (gw_I (by omega) rfl) (gw_I (by omega) rfl)) (gw_I (by omega) rfl)) (gw_I (by omega) rfl)) _).trans (hd_9)) | assumption) (by omega) (by exact mL_get (by decide)) (by first | (exact (congrFun (hw_2 (hw_2 (hw_2 (gw_I (by omega) rfl) (gw_I (by omega) rfl)) (gw_I (by omega) rfl)) (gw_I (by omega) rfl)) _).trans (hd_J (by omega) rfl)) | (exact (congrFun (hw_2 (hw_2 (hw_2 (gw_I (by omega) rfl) (gw_I (by omega) rfl)) (gw_I (by omega) rfl)) (gw_I (by omega) rfl)) _).trans (hd_L1 (by assumption))) | (exact (congrFun (hw_2 (hw_2 (hw_2 (gw_I (by omega) rfl) (gw_I (by omega) rfl)) (gw_I (by omega) rfl)) (gw_I (by omega) rfl)) _).trans (hd_L2 (by assumption))) | (exact (congrFun (hw_2 (hw_2 (hw_2 (gw_I (by omega) rfl) (gw_I (by omega) rfl)) (gw_I (by omega) rfl)) (gw_I (by omega) rfl)) _).trans (hd_L3 (by assumption))) | assumption) (by omega) (by first | assumption | (exact ix_of (by omega) (by omega)) | (exact ⟨by decide, rfl, by decide⟩)) (by first | (exact (congrFun (hw_2 (hw_2 (hw_2 (gw_I (by omega) rfl) (gw_I (by omega) rfl)) (gw_I (by omega) rfl)) (gw_I (by omega) rfl)) _).trans (hd_J (by omega) rfl)) | (exact (congrFun (hw_2 (hw_2 (hw_2 (gw_I (by omega) rfl) (gw_I (by omega) rfl)) (gw_I (by omega) rfl)) (gw_I (by omega) rfl)) _).trans (hd_L1 (by assumption))) | (exact (congrFun (hw_2 (hw_2 (hw_2 (gw_I (by omega) rfl) (gw_I (by omega) rfl)) (gw_I (by omega) rfl)) (gw_I (by omega) rfl)) _).trans (hd_L2 (by assumption))) | (exact (congrFun (hw_2 (hw_2 (hw_2 (gw_I (by omega) rfl) (gw_I (by omega) rfl)) (gw_I (by omega) rfl)) (gw_I (by omega) rfl)) _).trans (hd_L3 (by assumption))) | assumption) (by omega) (by first | assumption | (exact ix_of (by omega) (by omega)) | (exact ⟨by decide, rfl, by decide⟩)) ?_
      refine hw_W (hw_2 (hw_2 (hw_2 (hw_2 (gw_I (by omega) rfl) (gw_I (by omega) rfl)) (gw_I (by omega) rfl)) (gw_I (by omega) rfl)) ((by first | exact gw_J (by omega) rfl | exact gw_L1 (by assumption) | exact gw_L2 (by assumption) | exact gw_L3 (by assumption)))) ?_
      rw [of_succ]
      refine ih (k + 1) _ (by omega) (((((f1.trans (gCy.sI (q := 569) (by omega))).trans (gCy.sI (q := 570) (by omega))).trans (gCy.sI (q := 571) (by omega))).trans (gCy.sI (q := 572) (by omega))).trans (gCy.sJ (q := 573) rfl)) (fun i hi => ?_)
      show upd (b1.I 569) k (b1.I 551 k) i = b.I 551 i ∧ upd (b1.I 570) k (b1.I 552 k) i = b.I 552 i ∧ upd (b1.I 571) k (b1.I 553 k) i = b.I 553 i ∧ upd (b1.I 572) k (b1.I 554 k) i = b.I 554 i ∧ vp_updL (b1.J 573) k (b1.J 555 k) i = b.J 555 i
      rw [e0, e1, e2, e3, e4]
      by_cases e : i = k
      · rw [e, upd_at, upd_at, upd_at, upd_at, upL_at]
        exact ⟨rfl, rfl, rfl, rfl, rfl⟩
      · rw [upd_ne e, upd_ne e, upd_ne e, upd_ne e, upL_ne e]
        exact h1 i (by omega)
theorem g_kb (hn : 575 ≤ n) (hm : many ≤ 16) (K : ∀ b1, gCy 551 b b1 → (∀ i, i < many → b1.I 551 i = b.I 569 i ∧ b1.I 552 i = b.I 570 i ∧ b1.I 553 i = b.I 571 i ∧ b1.I 554 i = b.I 572 i ∧ b1.J 555 i = b.J 573 i) → Q (.inl (some (.int l3))) (n, sl, hd b1 f0)) : ∀ (t k : Nat) (b1 : mg_A), k + t = many → gCy 551 b b1 → (∀ i, i < k → b1.I 551 i = b.I 569 i ∧ b1.I 552 i = b.I 570 i ∧ b1.I 553 i = b.I 571 i ∧ b1.I 554 i = b.I 572 i ∧ b1.J 555 i = b.J 573 i) → mi_W d 194 157 [some (.ref 505), some (.int (Int32.ofNat many)), some (.int l3), some (.int (Int32.ofNat k))] [] (n, sl, hd b1 f0) Q := by
  intro t
  induction t with
  | zero =>
    intro k b1 hk f1 h1
    have hi := i_le (show Int32.ofNat many = Int32.ofNat many from rfl) (show Int32.ofNat k = Int32.ofNat k from rfl) (by omega) (by omega)
    refine b_194_157 _ _ _ ?_ ?_
    · intro z157
      refine b_194_228 _ _ _ ?_
      exact K b1 f1 (fun i hi => h1 i (by omega))
    · intro z157
      exact absurd (hi.mpr (by omega)) z157
  | succ t ih =>
    intro k b1 hk f1 h1
    have hi := i_le (show Int32.ofNat many = Int32.ofNat many from rfl) (show Int32.ofNat k = Int32.ofNat k from rfl) (by omega) (by omega)
    have hix := ix_of (w := k) (m := 16) (by omega) (by omega)
    have e0 := f1.1 569 (by omega)
    have e1 := f1.1 570 (by omega)
    have e2 := f1.1 571 (by omega)
    have e3 := f1.1 572 (by omega)
    have e4 := f1.2.1 573 (by omega)
    refine b_194_157 _ _ _ ?_ ?_
    · intro z157
      exact absurd (hi.mp z157) (by omega)
    · intro z157
      refine b_194_162 _ _ _ _ _ _ _ _ _ _ _ _ _ _ _ _ _ _ _ _ _ _ _ _ _ _ _ _ _ _ _ _ _ (by first | (exact hd_9) | assumption) (by omega) (by exact mL_get (by decide)) (by first | (exact hd_9) | assumption) (by omega) (by exact mL_get (by decide)) (by first | (exact hd_I (by omega) rfl) | assumption) (Or.inl (by omega)) (by first | assumption | (exact ix_of (by omega) (by omega)) | (exact ⟨by decide, rfl, by decide⟩)) (by first | (exact hd_I (by omega) rfl) | assumption) (by omega) (by first | assumption | (exact ix_of (by omega) (by omega)) | (exact ⟨by decide, rfl, by decide⟩)) (by first | (exact (congrFun (gw_I (by omega) rfl) _).trans (hd_9)) | assumption) (by omega) (by exact mL_get (by decide)) (by first | (exact (congrFun (gw_I (by omega) rfl) _).trans (hd_9)) | assumption) (by omega) (by exact mL_get (by decide)) (by first | (exact (congrFun (gw_I (by omega) rfl) _).trans (hd_I (by omega) rfl)) | assumption) (Or.inl (by omega)) (by first | assumption | (exact ix_of (by omega) (by omega)) | (exact ⟨by decide, rfl, by decide⟩)) (by first | (exact (congrFun (gw_I (by omega) rfl) _).trans (hd_I (by omega) rfl)) | assumption) (by omega) (by first | assumption | (exact ix_of (by omega) (by omega)) | (exact ⟨by decide, rfl, by decide⟩)) (by first | (exact (congrFun (hw_2 (gw_I (by omega) rfl) (gw_I (by omega) rfl)) _).trans (hd_9)) | assumption) (by omega) (by exact mL_get (by decide)) (by first | (exact (congrFun (hw_2 (gw_I (by omega) rfl) (gw_I (by omega) rfl)) _).trans (hd_9)) | assumption) (by omega) (by exact mL_get (by decide)) (by first | (exact (congrFun (hw_2 (gw_I (by omega) rfl) (gw_I (by omega) rfl)) _).trans (hd_I (by omega) rfl)) | assumption) (Or.inl (by omega)) (by first | assumption | (exact ix_of (by omega) (by omega)) | (exact ⟨by decide, rfl, by decide⟩)) (by first | (exact (congrFun (hw_2 (gw_I (by omega) rfl) (gw_I (by omega) rfl)) _).trans (hd_I (by omega) rfl)) | assumption) (by omega) (by first | assumption | (exact ix_of (by omega) (by omega)) | (exact ⟨by decide, rfl, by decide⟩)) (by first | (exact (congrFun (hw_2 (hw_2 (gw_I (by omega) rfl) (gw_I (by omega) rfl)) (gw_I (by omega) rfl)) _).trans (hd_9)) | assumption) (by omega) (by exact mL_get (by decide)) (by first | (exact (congrFun (hw_2 (hw_2 (gw_I (by omega) rfl) (gw_I (by omega) rfl)) (gw_I (by omega) rfl)) _).trans (hd_9)) | assumption) (by omega) (by exact mL_get (by decide)) (by first | (exact (congrFun (hw_2 (hw_2 (gw_I (by omega) rfl) (gw_I (by omega) rfl)) (gw_I (by omega) rfl)) _).trans (hd_I (by omega) rfl)) | assumption) (Or.inl (by omega)) (by first | assumption | (exact ix_of (by omega) (by omega)) | (exact ⟨by decide, rfl, by decide⟩)) (by first | (exact (congrFun (hw_2 (hw_2 (gw_I (by omega) rfl) (gw_I (by omega) rfl)) (gw_I (by omega) rfl)) _).trans (hd_I (by omega) rfl)) | assumption) (by omega) (by first | assumption | (exact ix_of (by omega) (by omega)) | (exact ⟨by decide, rfl, by decide⟩)) (by first | (exact (congrFun (hw_2 (hw_2 (hw_2 (gw_I (by omega) rfl) (gw_I (by omega) rfl)) (gw_I (by omega) rfl)) (gw_I (by omega) rfl)) _).trans (hd_9)) | assumption) (by omega) (by exact mL_get (by decide)) (by first | (exact (congrFun (hw_2 (hw_2 (hw_2 (gw_I (by omega) rfl) (gw_I (by omega) rfl)) (gw_I (by omega) rfl)) (gw_I (by omega) rfl)) _).trans (hd_9)) | assumption) (by omega) (by exact mL_get (by decide)) (by first | (exact (congrFun (hw_2 (hw_2 (hw_2 (gw_I (by omega) rfl) (gw_I (by omega) rfl)) (gw_I (by omega) rfl)) (gw_I (by omega) rfl)) _).trans (hd_J (by omega) rfl)) | (exact (congrFun (hw_2 (hw_2 (hw_2 (gw_I (by omega) rfl) (gw_I (by omega) rfl)) (gw_I (by omega) rfl)) (gw_I (by omega) rfl)) _).trans (hd_L1 (by assumption))) | (exact (congrFun (hw_2 (hw_2 (hw_2 (gw_I (by omega) rfl) (gw_I (by omega) rfl)) (gw_I (by omega) rfl)) (gw_I (by omega) rfl)) _).trans (hd_L2 (by assumption))) | (exact (congrFun (hw_2 (hw_2 (hw_2 (gw_I (by omega) rfl) (gw_I (by omega) rfl)) (gw_I (by omega) rfl)) (gw_I (by omega) rfl)) _).trans (hd_L3 (by assumption))) | assumption) (by omega) (by first | assumption | (exact ix_of (by omega) (by omega)) | (exact ⟨by decide, rfl, by decide⟩)) (by first | (exact (congrFun (hw_2 (hw_2 (hw_2 (gw_I (by omega) rfl) (gw_I (by omega) rfl)) (gw_I (by omega) rfl)) (gw_I (by omega) rfl)) _).trans (hd_J (by omega) rfl)) | (exact (congrFun (hw_2 (hw_2 (hw_2 (gw_I (by omega) rfl) (gw_I (by omega) rfl)) (gw_I (by omega) rfl)) (gw_I (by omega) rfl)) _).trans (hd_L1 (by assumption))) | (exact (congrFun (hw_2 (hw_2 (hw_2 (gw_I (by omega) rfl) (gw_I (by omega) rfl)) (gw_I (by omega) rfl)) (gw_I (by omega) rfl)) _).trans (hd_L2 (by assumption))) | (exact (congrFun (hw_2 (hw_2 (hw_2 (gw_I (by omega) rfl) (gw_I (by omega) rfl)) (gw_I (by omega) rfl)) (gw_I (by omega) rfl)) _).trans (hd_L3 (by assumption))) | assumption) (by omega) (by first | assumption | (exact ix_of (by omega) (by omega)) | (exact ⟨by decide, rfl, by decide⟩)) ?_
      refine hw_W (hw_2 (hw_2 (hw_2 (hw_2 (gw_I (by omega) rfl) (gw_I (by omega) rfl)) (gw_I (by omega) rfl)) (gw_I (by omega) rfl)) ((by first | exact gw_J (by omega) rfl | exact gw_L1 (by assumption) | exact gw_L2 (by assumption) | exact gw_L3 (by assumption)))) ?_
      rw [of_succ]
      refine ih (k + 1) _ (by omega) (((((f1.trans (gCy.sI (q := 551) (by omega))).trans (gCy.sI (q := 552) (by omega))).trans (gCy.sI (q := 553) (by omega))).trans (gCy.sI (q := 554) (by omega))).trans (gCy.sJ (q := 555) rfl)) (fun i hi => ?_)
      show upd (b1.I 551) k (b1.I 569 k) i = b.I 569 i ∧ upd (b1.I 552) k (b1.I 570 k) i = b.I 570 i ∧ upd (b1.I 553) k (b1.I 571 k) i = b.I 571 i ∧ upd (b1.I 554) k (b1.I 572 k) i = b.I 572 i ∧ vp_updL (b1.J 555) k (b1.J 573 k) i = b.J 573 i
      rw [e0, e1, e2, e3, e4]
      by_cases e : i = k
      · rw [e, upd_at, upd_at, upd_at, upd_at, upL_at]
        exact ⟨rfl, rfl, rfl, rfl, rfl⟩
      · rw [upd_ne e, upd_ne e, upd_ne e, upd_ne e, upL_ne e]
        exact h1 i (by omega)
theorem gX.an (h : gX r n sl b fd oc wr w many ins ev re (some K)) (f : gAn b b') (hI : gIs b' many ins) (hR : gRes b' re') (hRm : gRm r n' sl' b') : gX r n' sl' b' fd oc wr w many ins ev re' (some K) := by
  obtain ⟨h1, h2, h3, h4, h5, h6, ⟨k1, ⟨⟨t1, t2, t3⟩, t4, t5⟩, k3, k4, k5, k6, k7, k8⟩, h8, h9⟩ := h
  have fx := f.2.2.1
  have fi : ∀ q, 505 < q → q < 543 → b'.I q = b.I q := fun q h1 h2 => f.1 q (by omega)
  have fj : ∀ q, 505 < q → q < 543 → b'.J q = b.J q := fun q h1 h2 => f.2.1 q (by omega)
  refine ⟨?_, (fx 3 (by decide)).trans h2, fun j hj => ?_, hI, ?_, hR, ⟨(fx 4 (by decide)).trans k1, ⟨⟨t1, fun m hm => ?_, t3⟩, ?_, t5⟩, ⟨mg_o531, ?_⟩, (fx 21 (by decide)).trans k4, (fx 24 (by decide)).trans k5, (fx 25 (by decide)).trans k6, (fx 26 (by decide)).trans k7, (fx 27 (by decide)).trans k8⟩, hRm, ?_⟩
  · unfold gFe
    rw [fx 1 (by decide), f.1 506 (by decide)]
    exact h1
  · rw [f.2.1 550 (by decide)]
    exact h3 j hj
  · unfold gTo
    rw [fx 65 (by decide), fx 66 (by decide), f.1 556 (by decide), f.1 557 (by decide), f.1 558 (by decide), f.1 559 (by decide), f.1 560 (by decide), f.2.1 561 (by decide)]
    exact h5
  · unfold gRow
    rw [fi 509 (by decide) (by decide), fi 510 (by decide) (by decide), fi 511 (by decide) (by decide), fi 512 (by decide) (by decide), fi 513 (by decide) (by decide), fi 514 (by decide) (by decide), fi 515 (by decide) (by decide), fi 516 (by decide) (by decide), fi 529 (by decide) (by decide), fi 530 (by decide) (by decide), fj 517 (by decide) (by decide)]
    exact t2 m hm
  · unfold gBd
    rw [fj 518 (by decide) (by decide), fj 519 (by decide) (by decide)]
    exact t4
  · rw [(f.2.2.2 0).1, (f.2.2.2 0).2, (f.2.2.2 1).2, (f.2.2.2 2).2, (f.2.2.2 3).2, (f.2.2.2 4).1, (f.2.2.2 5).1]
    exact k3.2
  · unfold gFl
    rw [(f.2.2.2 4).1, (f.2.2.2 5).1]
    exact h9
end
