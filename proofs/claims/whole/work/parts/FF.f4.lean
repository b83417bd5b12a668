/-! the second object: a state is copied, flags; what apply keeps -/
/-- what apply leaves as it is -/
def gAp (b b' : mg_A) : Prop := (∀ q, (505 < q ∧ q < 543) ∨ 560 < q → b'.I q = b.I q) ∧ (∀ q, (505 < q ∧ q < 548) ∨ 561 < q → b'.J q = b.J q) ∧ (∀ j, (0 < j ∧ j < 43) ∨ 66 < j → b'.I 505 j = b.I 505 j) ∧ b'.B = b.B ∧ b'.D = b.D
def gAq (b b' : mg_A) : Prop := gAp b b' ∧ ∀ k, b'.P k 531 = b.P k 531 ∧ b'.L k 531 = b.L k 531
section
variable {d n sl : Nat} {b b0 b1 b2 b' : mg_A} {f0 : Nat → mi_C} {Q : (Option Value ⊕ Nat) → mi_H → Prop} {p q k : Nat} {S : mv_S} {x : Int32} {N BN : Nat} {tb : Nat → ms_N} {bd : Nat → Int64 × Int64}
theorem g_cr1 (hn : 575 ≤ n) (hpn : p + 5 < n) (hqn : q + 5 < n) (hp : mg_o b.D p) (hq : mg_o b.D q) (hpq : ¬ q = p) (K : ∀ b' l3, gCf p b b' → gFl b' p → b'.P 0 p 0 = b.P 0 q 0 → b'.L 0 p 0 = b.L 0 q 0 → (∀ j, j < 32 → b'.L 1 p j = b.L 1 q j) → mi_W d 173 42 [some (.ref p), some (.ref q), some (.int l3)] [] (n, sl, hd b' f0) Q) : ∀ (t k : Nat) (b1 : mg_A), k + t = 32 → gCf p b b1 → gFl b1 p → b1.P 0 p 0 = b.P 0 q 0 → b1.L 0 p 0 = b.L 0 q 0 → (∀ j, j < k → b1.L 1 p j = b.L 1 q j) → mi_W d 173 18 [some (.ref p), some (.ref q), some (.int (Int32.ofNat k))] [] (n, sl, hd b1 f0) Q := by
  intro t
  induction t with
  | zero =>
    intro k b1 hk f1 hF h0 h1 h2
    refine b_173_18 _ _ _ ?_ ?_
    · intro z18
      exact K b1 _ f1 hF h0 h1 (fun j hj => h2 j (by omega))
    · intro z18
      exact absurd ((i_le (a := 32) rfl rfl (by omega) (by omega)).mpr (by omega)) z18
  | succ t ih =>
    intro k b1 hk f1 hF h0 h1 h2
    have hix := ix_of (w := k) (m := 32) (by omega) (by omega)
    have hp1 := f1.o hp
    have hq1 := f1.o hq
    refine b_173_18 _ _ _ ?_ ?_
    · intro z18
      exact absurd ((i_le (a := 32) rfl rfl (by omega) (by omega)).mp z18) (by omega)
    · intro z18
      refine b_173_24 _ _ _ _ _ _ _ _ _ (by first | (exact hd_8 (by assumption)) | assumption) (by omega) (by exact rfl) (by first | (exact hd_8 (by assumption)) | assumption) (by omega) (by exact rfl) (by first | (exact hd_J (by omega) rfl) | (exact hd_L1 (by assumption)) | (exact hd_L2 (by assumption)) | (exact hd_L3 (by assumption)) | assumption) (by omega) (by first | assumption | (exact ix_of (by omega) (by omega)) | (exact ⟨by decide, rfl, by decide⟩)) (by first | (exact hd_J (by omega) rfl) | (exact hd_L1 (by assumption)) | (exact hd_L2 (by assumption)) | (exact hd_L3 (by assumption)) | assumption) (by omega) (by first | assumption | (exact ix_of (by omega) (by omega)) | (exact ⟨by decide, rfl, by decide⟩)) ?_
      refine hw_W ((by first | exact gw_J (by omega) rfl | exact gw_L1 (by assumption) | exact gw_L2 (by assumption) | exact gw_L3 (by assumption))) ?_
      rw [of_succ]
      refine ih (k + 1) _ (by omega) f1.sL hF h0 h1 (fun j hj => ?_)
      rw [L_at]
      by_cases e : j = k
      · rw [e, upL_at, (f1.2.2.2.2.2 1 q hpq).2]
      · rw [upL_ne e]
        exact h2 j (by omega)
theorem g_cr2 (hn : 575 ≤ n) (hpn : p + 5 < n) (hqn : q + 5 < n) (hp : mg_o b.D p) (hq : mg_o b.D q) (hpq : ¬ q = p) (hb : ∀ j, j < 8 → (b.P 4 q j = 0 ∨ b.P 4 q j = 1) ∧ (b.P 5 q j = 0 ∨ b.P 5 q j = 1)) (K : ∀ b', gCf p b b' → gFl b' p → b'.P 0 p = b.P 0 p → b'.L 0 p = b.L 0 p → b'.L 1 p = b.L 1 p → (∀ j, j < 8 → b'.L 2 p j = b.L 2 q j ∧ b'.L 3 p j = b.L 3 q j ∧ b'.P 4 p j = b.P 4 q j ∧ b'.P 5 p j = b.P 5 q j) → Q (.inl none) (n, sl, hd b' f0)) : ∀ (t k : Nat) (b1 : mg_A), k + t = 8 → gCf p b b1 → gFl b1 p → b1.P 0 p = b.P 0 p → b1.L 0 p = b.L 0 p → b1.L 1 p = b.L 1 p → (∀ j, j < k → b1.L 2 p j = b.L 2 q j ∧ b1.L 3 p j = b.L 3 q j ∧ b1.P 4 p j = b.P 4 q j ∧ b1.P 5 p j = b.P 5 q j) → mi_W d 173 44 [some (.ref p), some (.ref q), some (.int (Int32.ofNat k))] [] (n, sl, hd b1 f0) Q := by
  intro t
  induction t with
  | zero =>
    intro k b1 hk f1 hF h0 h1 h2 h3
    refine b_173_44 _ _ _ ?_ ?_
    · intro z44
      refine b_173_104 _ _ _ ?_
      exact K b1 f1 hF h0 h1 h2 (fun j hj => h3 j (by omega))
    · intro z44
      exact absurd ((i_le (a := 8) rfl rfl (by omega) (by omega)).mpr (by omega)) z44
  | succ t ih =>
    intro k b1 hk f1 hF h0 h1 h2 h3
    have hix := ix_of (w := k) (m := 8) (by omega) (by omega)
    have hp1 := f1.o hp
    have hq1 := f1.o hq
    have hbk := hb k (by omega)
    have e2 := (f1.2.2.2.2.2 2 q hpq).2
    have e3 := (f1.2.2.2.2.2 3 q hpq).2
    have e4 := (f1.2.2.2.2.2 4 q hpq).1
    have e5 := (f1.2.2.2.2.2 5 q hpq).1
    have hF' : gFl ((((b1.sL 2 p (vp_updL (b1.L 2 p) k (b1.L 2 q k))).sL 3 p (vp_updL (b1.L 3 p) k (b1.L 3 q k))).sP 4 p (upd (b1.P 4 p) k (vp_nar .boolean (b1.P 4 q k)))).sP 5 p (upd (b1.P 5 p) k (vp_nar .boolean (b1.P 5 q k)))) p := by
      intro j
      show ((mh_v b1.P 4 p (upd (b1.P 4 p) k (vp_nar .boolean (b1.P 4 q k)))) 4 p j = 0 ∨ (mh_v b1.P 4 p (upd (b1.P 4 p) k (vp_nar .boolean (b1.P 4 q k)))) 4 p j = 1) ∧ ((mh_v (mh_v b1.P 4 p (upd (b1.P 4 p) k (vp_nar .boolean (b1.P 4 q k)))) 5 p (upd (b1.P 5 p) k (vp_nar .boolean (b1.P 5 q k)))) 5 p j = 0 ∨ (mh_v (mh_v b1.P 4 p (upd (b1.P 4 p) k (vp_nar .boolean (b1.P 4 q k)))) 5 p (upd (b1.P 5 p) k (vp_nar .boolean (b1.P 5 q k)))) 5 p j = 1)
      rw [mh_v_at, mh_v_at, e4, e5, vn_b hbk.1, vn_b hbk.2]
      by_cases e : j = k
      · rw [e, upd_at, upd_at]
        exact hbk
      · rw [upd_ne e, upd_ne e]
        exact hF j
    refine b_173_44 _ _ _ ?_ ?_
    · intro z44
      exact absurd ((i_le (a := 8) rfl rfl (by omega) (by omega)).mp z44) (by omega)
    · intro z44
      refine b_173_50 _ _ _ _ _ _ _ _ _ _ _ _ _ _ _ _ _ _ _ _ _ _ _ _ _ _ _ (by first | (exact hd_8 (by assumption)) | assumption) (by omega) (by exact rfl) (by first | (exact hd_8 (by assumption)) | assumption) (by omega) (by exact rfl) (by first | (exact hd_J (by omega) rfl) | (exact hd_L1 (by assumption)) | (exact hd_L2 (by assumption)) | (exact hd_L3 (by assumption)) | assumption) (by omega) (by first | assumption | (exact ix_of (by omega) (by omega)) | (exact ⟨by decide, rfl, by decide⟩)) (by first | (exact hd_J (by omega) rfl) | (exact hd_L1 (by assumption)) | (exact hd_L2 (by assumption)) | (exact hd_L3 (by assumption)) | assumption) (by omega) (by first | assumption | (exact ix_of (by omega) (by omega)) | (exact ⟨by decide, rfl, by decide⟩)) (by first | (exact (congrFun ((by first | exact gw_J (by omega) rfl | exact gw_L1 (by assumption) | exact gw_L2 (by assumption) | exact gw_L3 (by assumption))) _).trans (hd_8 (by assumption))) | assumption) (by omega) (by exact rfl) (by first | (exact (congrFun ((by first | exact gw_J (by omega) rfl | exact gw_L1 (by assumption) | exact gw_L2 (by assumption) | exact gw_L3 (by assumption))) _).trans (hd_8 (by assumption))) | assumption) (by omega) (by exact rfl) (by first | (exact (congrFun ((by first | exact gw_J (by omega) rfl | exact gw_L1 (by assumption) | exact gw_L2 (by assumption) | exact gw_L3 (by assumption))) _).trans (hd_J (by omega) rfl)) | (exact (congrFun ((by first | exact gw_J (by omega) rfl | exact gw_L1 (by assumption) | exact gw_L2 (by assumption) | exact gw_L3 (by assumption))) _).trans (hd_L1 (by assumption))) | (exact (congrFun ((by first | exact gw_J (by omega) rfl | exact gw_L1 (by assumption) | exact gw_L2 (by assumption) | exact gw_L3 (by assumption))) _).trans (hd_L2 (by assumption))) | (exact (congrFun ((by first | exact gw_J (by omega) rfl | exact gw_L1 (by assumption) | exact gw_L2 (by assumption) | exact gw_L3 (by assumption))) _).trans (hd_L3 (by assumption))) | assumption) (by omega) (by first | assumption | (exact ix_of (by omega) (by omega)) | (exact ⟨by decide, rfl, by decide⟩)) (by first | (exact (congrFun ((by first | exact gw_J (by omega) rfl | exact gw_L1 (by assumption) | exact gw_L2 (by assumption) | exact gw_L3 (by assumption))) _).trans (hd_J (by omega) rfl)) | (exact (congrFun ((by first | exact gw_J (by omega) rfl | exact gw_L1 (by assumption) | exact gw_L2 (by assumption) | exact gw_L3 (by assumption))) _).trans (hd_L1 (by assumption))) | (exact (congrFun ((by first | exact gw_J (by omega) rfl | exact gw_L1 (by assumption) | exact gw_L2 (by assumption) | exact gw_L3 (by assumption))) _).trans (hd_L2 (by assumption))) | (exact (congrFun ((by first | exact gw_J (by omega) rfl | exact gw_L1 (by assumption) | exact gw_L2 (by assumption) | exact gw_L3 (by assumption))) _).trans (hd_L3 (by assumption))) | assumption) (by omega) (by first | assumption | (exact ix_of (by omega) (by omega)) | (exact ⟨by decide, rfl, by decide⟩)) (by first | (exact (congrFun (hw_2 ((by first | exact gw_J (by omega) rfl | exact gw_L1 (by assumption) | exact gw_L2 (by assumption) | exact gw_L3 (by assumption))) ((by first | exact gw_J (by omega) rfl | exact gw_L1 (by assumption) | exact gw_L2 (by assumption) | exact gw_L3 (by assumption)))) _).trans (hd_8 (by assumption))) | assumption) (by omega) (by exact rfl) (by first | (exact (congrFun (hw_2 ((by first | exact gw_J (by omega) rfl | exact gw_L1 (by assumption) | exact gw_L2 (by assumption) | exact gw_L3 (by assumption))) ((by first | exact gw_J (by omega) rfl | exact gw_L1 (by assumption) | exact gw_L2 (by assumption) | exact gw_L3 (by assumption)))) _).trans (hd_8 (by assumption))) | assumption) (by omega) (by exact rfl) (by first | (exact (congrFun (hw_2 ((by first | exact gw_J (by omega) rfl | exact gw_L1 (by assumption) | exact gw_L2 (by assumption) | exact gw_L3 (by assumption))) ((by first | exact gw_J (by omega) rfl | exact gw_L1 (by assumption) | exact gw_L2 (by assumption) | exact gw_L3 (by assumption)))) _).trans (hd_P4 (by assumption))) | (exact (congrFun (hw_2 ((by first | exact gw_J (by omega) rfl | exact gw_L1 (by assumption) | exact gw_L2 (by assumption) | exact gw_L3 (by assumption))) ((by first | exact gw_J (by omega) rfl | exact gw_L1 (by assumption) | exact gw_L2 (by assumption) | exact gw_L3 (by assumption)))) _).trans (hd_P5 (by assumption))) | assumption) (by omega) (by first | assumption | (exact ix_of (by omega) (by omega)) | (exact ⟨by decide, rfl, by decide⟩)) (by first | (exact (congrFun (hw_2 ((by first | exact gw_J (by omega) rfl | exact gw_L1 (by assumption) | exact gw_L2 (by assumption) | exact gw_L3 (by assumption))) ((by first | exact gw_J (by omega) rfl | exact gw_L1 (by assumption) | exact gw_L2 (by assumption) | exact gw_L3 (by assumption)))) _).trans (hd_P4 (by assumption))) | (exact (congrFun (hw_2 ((by first | exact gw_J (by omega) rfl | exact gw_L1 (by assumption) | exact gw_L2 (by assumption) | exact gw_L3 (by assumption))) ((by first | exact gw_J (by omega) rfl | exact gw_L1 (by assumption) | exact gw_L2 (by assumption) | exact gw_L3 (by assumption)))) _).trans (hd_P5 (by assumption))) | assumption) (by omega) (by first | assumption | (exact ix_of (by omega) (by omega)) | (exact ⟨by decide, rfl, by decide⟩)) (by first | (exact (congrFun (hw_2 (hw_2 ((by first | exact gw_J (by omega) rfl | exact gw_L1 (by assumption) | exact gw_L2 (by assumption) | exact gw_L3 (by assumption))) ((by first | exact gw_J (by omega) rfl | exact gw_L1 (by assumption) | exact gw_L2 (by assumption) | exact gw_L3 (by assumption)))) ((by first | exact gw_P4 (by assumption) | exact gw_P5 (by assumption)))) _).trans (hd_8 (by assumption))) | assumption) (by omega) (by exact rfl) (by first | (exact (congrFun (hw_2 (hw_2 ((by first | exact gw_J (by omega) rfl | exact gw_L1 (by assumption) | exact gw_L2 (by assumption) | exact gw_L3 (by assumption))) ((by first | exact gw_J (by omega) rfl | exact gw_L1 (by assumption) | exact gw_L2 (by assumption) | exact gw_L3 (by assumption)))) ((by first | exact gw_P4 (by assumption) | exact gw_P5 (by assumption)))) _).trans (hd_8 (by assumption))) | assumption) (by omega) (by exact rfl) (by first | (exact (congrFun (hw_2 (hw_2 ((by first | exact gw_J (by omega) rfl | exact gw_L1 (by assumption) | exact gw_L2 (by assumption) | exact gw_L3 (by assumption))) ((by first | exact gw_J (by omega) rfl | exact gw_L1 (by assumption) | exact gw_L2 (by assumption) | exact gw_L3 (by assumption)))) ((by first | exact gw_P4 (by assumption) | exact gw_P5 (by assumption)))) _).trans (hd_P4 (by assumption))) | (exact (congrFun (hw_2 (hw_2 ((by first | exact gw_J (by omega) rfl | exact gw_L1 (by assumption) | exact gw_L2 (by assumption) | exact gw_L3 (by assumption))) ((by first | exact gw_J (by omega) rfl | exact gw_L1 (by assumption) | exact gw_L2 (by assumption) | exact gw_L3 (by assumption)))) ((by first | exact gw_P4 (by assumption) | exact gw_P5 (by assumption)))) _).trans (hd_P5 (by assumption))) | assumption) (by omega) (by first | assumption | (exact ix_of (by omega) (by omega)) | (exact ⟨by decide, rfl, by decide⟩)) (by first | (exact (congrFun (hw_2 (hw_2 ((by first | exact gw_J (by omega) rfl | exact gw_L1 (by assumption) | exact gw_L2 (by assumption) | exact gw_L3 (by assumption))) ((by first | exact gw_J (by omega) rfl | exact gw_L1 (by assumption) | exact gw_L2 (by assumption) | exact gw_L3 (by assumption)))) ((by first | exact gw_P4 (by assumption) | exact gw_P5 (by assumption)))) _).trans (hd_P4 (by assumption))) | (exact (congrFun (hw_2 (hw_2 ((by first | exact gw_J (by omega) rfl | exact gw_L1 (by assumption) | exact gw_L2 (by assumption) | exact gw_L3 (by assumption))) ((by first | exact gw_J (by omega) rfl | exact gw_L1 (by assumption) | exact gw_L2 (by assumption) | exact gw_L3 (by assumption)))) ((by first | exact gw_P4 (by assumption) | exact gw_P5 (by assumption)))) _).trans (hd_P5 (by assumption))) | assumption) (by omega) (by first | assumption | (exact ix_of (by omega) (by omega)) | (exact ⟨by decide, rfl, by decide⟩)) ?_
      refine hw_W (hw_2 (hw_2 (hw_2 ((by first | exact gw_J (by omega) rfl | exact gw_L1 (by assumption) | exact gw_L2 (by assumption) | exact gw_L3 (by assumption))) ((by first | exact gw_J (by omega) rfl | exact gw_L1 (by assumption) | exact gw_L2 (by assumption) | exact gw_L3 (by assumption)))) ((by first | exact gw_P4 (by assumption) | exact gw_P5 (by assumption)))) ((by first | exact gw_P4 (by assumption) | exact gw_P5 (by assumption)))) ?_
      rw [of_succ]
      refine ih (k + 1) _ (by omega) f1.sL.sL.sP.sP hF' h0 h1 h2 (fun j hj => ?_)
      show (mh_v b1.L 2 p (vp_updL (b1.L 2 p) k (b1.L 2 q k))) 2 p j = b.L 2 q j ∧ (mh_v (mh_v b1.L 2 p (vp_updL (b1.L 2 p) k (b1.L 2 q k))) 3 p (vp_updL (b1.L 3 p) k (b1.L 3 q k))) 3 p j = b.L 3 q j ∧ (mh_v b1.P 4 p (upd (b1.P 4 p) k (vp_nar .boolean (b1.P 4 q k)))) 4 p j = b.P 4 q j ∧ (mh_v (mh_v b1.P 4 p (upd (b1.P 4 p) k (vp_nar .boolean (b1.P 4 q k)))) 5 p (upd (b1.P 5 p) k (vp_nar .boolean (b1.P 5 q k)))) 5 p j = b.P 5 q j
      rw [mh_v_at, mh_v_at, mh_v_at, mh_v_at, e2, e3, e4, e5, vn_b hbk.1, vn_b hbk.2]
      by_cases e : j = k
      · rw [e, upL_at, upL_at, upd_at, upd_at]
        exact ⟨rfl, rfl, rfl, rfl⟩
      · rw [upL_ne e, upL_ne e, upd_ne e, upd_ne e]
        exact h3 j (by omega)
theorem g_copyf (hn : 575 ≤ n) (hpn : p + 5 < n) (hqn : q + 5 < n) (hp : mg_o b.D p) (hq : mg_S b q S) (hpq : ¬ q = p) (hF : gFl b p) (K : ∀ b', gCf p b b' → gFl b' p → mg_S b' p S → Q (.inl none) (n, sl, hd b' f0)) : mi_W d 173 0 (mi_en 3 [.ref p, .ref q]) [] (n, sl, hd b f0) Q := by
  obtain ⟨hqo, s1, s2, s3, s4, s5⟩ := hq
  have e1 : ((b.sP 0 p (fun _ => b.P 0 q 0))).L 0 q 0 = b.L 0 q 0 := rfl
  refine b_173_0 _ _ _ (by first | (exact hd_8 (by assumption)) | assumption) (by omega) (by exact rfl) (by first | (exact hd_8 (by assumption)) | assumption) (by omega) (Nat.le_of_ble_eq_true rfl) (by first | (exact (congrFun (gw_at (by assumption)) _).trans (hd_8 (by assumption))) | assumption) (by omega) (by exact rfl) (by first | (exact (congrFun (gw_at (by assumption)) _).trans (hd_8 (by assumption))) | assumption) (by omega) (Nat.le_of_ble_eq_true rfl) ?_
  refine hw_W (hw_2 (gw_at (by assumption)) (gw_tm (by assumption))) ?_
  refine g_cr1 hn hpn hqn hp hqo hpq (fun b1 l3 f1 hF1 h0 h1 h2 => ?_) 32 0 _ rfl gCf.re.sP.sL hF (by show (mh_v b.P 0 p (fun _ => b.P 0 q 0)) 0 p 0 = b.P 0 q 0; rw [mh_v_at]) (by show (mh_v b.L 0 p (fun _ => b.L 0 q 0)) 0 p 0 = b.L 0 q 0; rw [mh_v_at]) (fun j hj => absurd hj (Nat.not_lt_zero j))
  refine b_173_42 _ _ _ ?_
  have eq4 := (f1.2.2.2.2.2 4 q hpq).1
  have eq5 := (f1.2.2.2.2.2 5 q hpq).1
  have eq2 := (f1.2.2.2.2.2 2 q hpq).2
  have eq3 := (f1.2.2.2.2.2 3 q hpq).2
  refine g_cr2 hn hpn hqn (f1.o hp) (f1.o hqo) hpq (fun j hj => by rw [eq4, eq5]; exact ⟨(s4 j hj).1, (s5 j hj).1⟩) (fun b2 f2 hF2 k0 k1 k2 k3 => ?_) 8 0 b1 rfl gCf.re hF1 rfl rfl rfl (fun j hj => absurd hj (Nat.not_lt_zero j))
  refine K b2 (f1.trans f2) hF2 ⟨(f1.trans f2).o hp, ?_, ?_, fun j hj => ?_, fun j hj => ?_, fun j hj => ?_⟩
  · rw [k0, h0]
    exact s1
  · rw [k1, h1]
    exact s2
  · rw [k2, h2 j hj]
    exact s3 j hj
  · rw [(k3 j hj).1, (k3 j hj).2.2.1, eq2, eq4]
    exact s4 j hj
  · rw [(k3 j hj).2.1, (k3 j hj).2.2.2, eq3, eq5]
    exact s5 j hj
theorem gAp.re : gAp b b := ⟨fun _ _ => rfl, fun _ _ => rfl, fun _ _ => rfl, rfl, rfl⟩
theorem gAq.re : gAq b b := ⟨gAp.re, fun _ => ⟨rfl, rfl⟩⟩
theorem gAp.trans (h : gAp b b1) (h' : gAp b1 b2) : gAp b b2 := ⟨fun q hq => (h'.1 q hq).trans (h.1 q hq), fun q hq => (h'.2.1 q hq).trans (h.2.1 q hq), fun j hj => (h'.2.2.1 j hj).trans (h.2.2.1 j hj), h'.2.2.2.1.trans h.2.2.2.1, h'.2.2.2.2.trans h.2.2.2.2⟩
theorem gAq.trans (h : gAq b b1) (h' : gAq b1 b2) : gAq b b2 := ⟨h.1.trans h'.1, fun k => ⟨(h'.2 k).1.trans (h.2 k).1, (h'.2 k).2.trans (h.2 k).2⟩⟩
theorem gAp.cf (h : gCf p b b1) : gAp b b1 := ⟨fun q _ => by rw [h.1], fun q _ => by rw [h.2.1], fun j _ => by rw [h.1], h.2.2.2.1, h.2.2.2.2.1⟩
theorem gAq.cf (h : gCf 537 b b1) : gAq b b1 := ⟨gAp.cf h, fun k => h.2.2.2.2.2 k 531 (by decide)⟩
theorem gAq.tf (h : gTf 537 b b1) : gAq b b1 := ⟨⟨fun q hq => h.2.1 q (by omega), fun q hq => h.2.2.1 q (by omega), fun j hj => h.2.2.2.1 j (by omega) (by omega) (by omega) (by omega), h.1.2.1, h.1.2.2⟩, fun k => h.2.2.2.2.2 k 531 (by decide)⟩
theorem gAq.sX (hk : k = 0 ∨ (43 ≤ k ∧ k ≤ 66)) : gAq b (b.sX k x) := ⟨⟨fun q hq => va_ne (by omega), fun _ _ => rfl, fun j hj => (congrFun (va_eq (f := b.I) (k := 505)) j).trans (va_ne (by omega)), rfl, rfl⟩, fun _ => ⟨rfl, rfl⟩⟩
theorem gAq.sS {v : Value} : gAq b (b.sS v) := ⟨⟨fun _ _ => rfl, fun _ _ => rfl, fun _ _ => rfl, rfl, rfl⟩, fun _ => ⟨rfl, rfl⟩⟩
theorem gAq.sI {g : Nat → Int32} (hq : 556 ≤ q ∧ q ≤ 560) : gAq b (b.sI q g) := ⟨⟨fun q' h => va_ne (by omega), fun _ _ => rfl, fun j hj => congrFun (va_ne (f := b.I) (by omega)) j, rfl, rfl⟩, fun _ => ⟨rfl, rfl⟩⟩
theorem gAq.sJ {g : Nat → Int64} (hq : q = 550 ∨ q = 561) : gAq b (b.sJ q g) := ⟨⟨fun _ _ => rfl, fun q' h => va_ne (by omega), fun _ _ => rfl, rfl, rfl⟩, fun _ => ⟨rfl, rfl⟩⟩
theorem gTb.ap (h : gTb b N BN tb bd) (f : gAp b b1) : gTb b1 N BN tb bd := by
  obtain ⟨⟨h1, h2, h3⟩, h4, h5⟩ := h
  have fi : ∀ q, 505 < q → q < 543 → b1.I q = b.I q := fun q h1 h2 => f.1 q (by omega)
  have fj : ∀ q, 505 < q → q < 543 → b1.J q = b.J q := fun q h1 h2 => f.2.1 q (by omega)
  refine ⟨⟨h1, fun m hm => ?_, h3⟩, ?_, h5⟩
  · unfold gRow
    rw [fi 509 (by decide) (by decide), fi 510 (by decide) (by decide), fi 511 (by decide) (by decide), fi 512 (by decide) (by decide), fi 513 (by decide) (by decide), fi 514 (by decide) (by decide), fi 515 (by decide) (by decide), fi 516 (by decide) (by decide), fi 529 (by decide) (by decide), fi 530 (by decide) (by decide), fj 517 (by decide) (by decide)]
    exact h2 m hm
  · unfold gBd
    rw [fj 518 (by decide) (by decide), fj 519 (by decide) (by decide)]
    exact h4
theorem gAq.st (f : gAq b b1) (h : mg_S b 531 S) : mg_S b1 531 S := by
  obtain ⟨g0, g⟩ := h
  refine ⟨mg_o531, ?_⟩
  rw [(f.2 0).1, (f.2 0).2, (f.2 1).2, (f.2 2).2, (f.2 3).2, (f.2 4).1, (f.2 5).1]
  exact g
theorem gX.ap {r fd many : Nat} {oc : Nat → Int32} {wr : Int32} {w w' : Nat → Int64} {ins : Nat → mv_I} {ev ev' : mv_Z} {re : ma_R} {K : mx_K} (h : gX r n sl b fd oc wr w many ins ev re (some K)) (f : gAp b b1) (hW : gWa b1 w') (h59 : b1.I 505 59 = 0) (hT : gTo b1 ev') (hS : mg_S b1 531 S) (hF : gFl b1 531) : gX r n sl b1 fd oc wr w' 0 ins ev' re (some (K.1, S, K.2.2)) := by
  obtain ⟨h1, h2, h3, h4, h5, h6, ⟨k1, k2, k3, k4, k5, k6, k7, k8⟩, h8, h9⟩ := h
  have fx : ∀ j, (0 < j ∧ j < 43) ∨ 66 < j → b1.I 505 j = b.I 505 j := f.2.2.1
  refine ⟨?_, (fx 3 (by decide)).trans h2, hW, ⟨h59, Nat.zero_le _, fun j hj => absurd hj (Nat.not_lt_zero j)⟩, hT, ?_, ⟨(fx 4 (by decide)).trans k1, k2.ap f, hS, (fx 21 (by decide)).trans k4, (fx 24 (by decide)).trans k5, (fx 25 (by decide)).trans k6, (fx 26 (by decide)).trans k7, (fx 27 (by decide)).trans k8⟩, h8.to f.2.2.2.1 f.2.2.2.2, hF⟩
  · unfold gFe
    rw [fx 1 (by decide), f.1 506 (by decide)]
    exact h1
  · unfold gRes
    rw [fx 73 (by decide), fx 75 (by decide), f.1 564 (by decide), f.1 565 (by decide), f.2.1 567 (by decide)]
    exact h6
end
