/-! the second object: a state is copied -/
def gCf (p : Nat) (b b' : mg_A) : Prop := b'.I = b.I ∧ b'.J = b.J ∧ b'.s = b.s ∧ b'.B = b.B ∧ b'.D = b.D ∧ ∀ k r, ¬ r = p → b'.P k r = b.P k r ∧ b'.L k r = b.L k r
section
variable {d n sl : Nat} {b b0 b1 b2 : mg_A} {f0 : Nat → mi_C} {Q : (Option Value ⊕ Nat) → mi_H → Prop} {p q k : Nat} {S : mv_S}
theorem gCf.re : gCf p b b := ⟨rfl, rfl, rfl, rfl, rfl, fun _ _ _ => ⟨rfl, rfl⟩⟩
theorem gCf.trans (h : gCf p b b1) (h' : gCf p b1 b2) : gCf p b b2 := ⟨h'.1.trans h.1, h'.2.1.trans h.2.1, h'.2.2.1.trans h.2.2.1, h'.2.2.2.1.trans h.2.2.2.1, h'.2.2.2.2.1.trans h.2.2.2.2.1, fun k r hr => ⟨(h'.2.2.2.2.2 k r hr).1.trans (h.2.2.2.2.2 k r hr).1, (h'.2.2.2.2.2 k r hr).2.trans (h.2.2.2.2.2 k r hr).2⟩⟩
theorem gCf.sP {g : Nat → Int32} (h : gCf p b0 b) : gCf p b0 (b.sP k p g) := ⟨h.1, h.2.1, h.2.2.1, h.2.2.2.1, h.2.2.2.2.1, fun k' r hr => ⟨(mh_v_x (fun e => hr e.2)).trans (h.2.2.2.2.2 k' r hr).1, (h.2.2.2.2.2 k' r hr).2⟩⟩
theorem gCf.sL {g : Nat → Int64} (h : gCf p b0 b) : gCf p b0 (b.sL k p g) := ⟨h.1, h.2.1, h.2.2.1, h.2.2.2.1, h.2.2.2.2.1, fun k' r hr => ⟨(h.2.2.2.2.2 k' r hr).1, (mh_v_x (fun e => hr e.2)).trans (h.2.2.2.2.2 k' r hr).2⟩⟩
theorem gCf.o {r : Nat} (h : gCf p b b1) (ho : mg_o b.D r) : mg_o b1.D r := by
  rw [h.2.2.2.2.1]
  exact ho
theorem vn_b {x : Int32} (h : x = 0 ∨ x = 1) : vp_nar .boolean x = x := by
  rcases h with rfl | rfl <;> rfl
theorem gCf.st {r : Nat} (h : gCf p b b1) (hr : ¬ r = p) (hS : mg_S b r S) : mg_S b1 r S := by
  unfold mg_S
  rw [(h.2.2.2.2.2 0 r hr).1, (h.2.2.2.2.2 0 r hr).2, (h.2.2.2.2.2 1 r hr).2, (h.2.2.2.2.2 2 r hr).2, (h.2.2.2.2.2 3 r hr).2, (h.2.2.2.2.2 4 r hr).1, (h.2.2.2.2.2 5 r hr).1, h.2.2.2.2.1]
  exact hS
theorem g_cp1 (hn : 575 ≤ n) (hpn : p + 5 < n) (hqn : q + 5 < n) (hp : mg_o b.D p) (hq : mg_o b.D q) (hpq : ¬ q = p) (K : ∀ b' l3, gCf p b b' → b'.P 0 p 0 = b.P 0 q 0 → b'.L 0 p 0 = b.L 0 q 0 → (∀ j, j < 32 → b'.L 1 p j = b.L 1 q j) → mi_W d 173 42 [some (.ref p), some (.ref q), some (.int l3)] [] (n, sl, hd b' f0) Q) : ∀ (t k : Nat) (b1 : mg_A), k + t = 32 → gCf p b b1 → b1.P 0 p 0 = b.P 0 q 0 → b1.L 0 p 0 = b.L 0 q 0 → (∀ j, j < k → b1.L 1 p j = b.L 1 q j) → mi_W d 173 18 [some (.ref p), some (.ref q), some (.int (Int32.ofNat k))] [] (n, sl, hd b1 f0) Q := by
  intro t
  induction t with
  | zero =>
    intro k b1 hk f1 h0 h1 h2
    refine b_173_18 _ _ _ ?_ ?_
    · intro z18
      exact K b1 _ f1 h0 h1 (fun j hj => h2 j (by omega))
    · intro z18
      exact absurd ((i_le (a := 32) rfl rfl (by omega) (by omega)).mpr (by omega)) z18
  | succ t ih =>
    intro k b1 hk f1 h0 h1 h2
    have hix := ix_of (w := k) (m := 32) (by omega) (by omega)
    have hp1 := f1.o hp
    have hq1 := f1.o hq
    refine b_173_18 _ _ _ ?_ ?_
    · intro z18
      exact absurd ((i_le (a := 32) rfl rfl (by omega) (by omega)).mp z18) (by omega)
    · intro z18
      refine b_173_24 _ _ _ _ _ _ _ _ _ (by first | (exact hd_8 (by assumption)) | assumption) (by omega) (by exact rfl) (by first | (exact hd_8 (by assumption)) | assumption) (by omega) (by exact rfl) (by first | (exact hd_J (by omega) rfl) | (exact hd_L1 (by assumption)) | (exact hd_L2 (by assumption)) | (exact hd_L3 (by assumption)) | assumption) (by omega) (by first | assumption | (exact ix_of (by omega) (by omega)) | (exact ⟨by decide, rfl, by decide⟩)) (by first | (exact hd_J (by omega) rfl) | (exact hd_L1 (by assumption)) | (exact hd_L2 (by assumption)) | (exact hd_L3 (by assumption)) | assumption) (by omega) (by first | assumption | (exact ix_of (by omega) (by omega)) | (exact ⟨by decide, rfl, by decide⟩)) ?_
      refine hw_W ((by first | exact gw_J (by omega) rfl | exact gw_L1 (by assumption) | exact gw_L2 (by assumption) | exact gw_L3 (by assumption))) ?_
      rw [of_succ]
      refine ih (k + 1) _ (by omega) f1.sL h0 h1 (fun j hj => ?_)
      rw [L_at]
      by_cases e : j = k
      · rw [e, upL_at, (f1.2.2.2.2.2 1 q hpq).2]
      · rw [upL_ne e]
        exact h2 j (by omega)
theorem g_cp2 (hn : 575 ≤ n) (hpn : p + 5 < n) (hqn : q + 5 < n) (hp : mg_o b.D p) (hq : mg_o b.D q) (hpq : ¬ q = p) (hb : ∀ j, j < 8 → (b.P 4 q j = 0 ∨ b.P 4 q j = 1) ∧ (b.P 5 q j = 0 ∨ b.P 5 q j = 1)) (K : ∀ b', gCf p b b' → b'.P 0 p = b.P 0 p → b'.L 0 p = b.L 0 p → b'.L 1 p = b.L 1 p → (∀ j, j < 8 → b'.L 2 p j = b.L 2 q j ∧ b'.L 3 p j = b.L 3 q j ∧ b'.P 4 p j = b.P 4 q j ∧ b'.P 5 p j = b.P 5 q j) → Q (.inl none) (n, sl, hd b' f0)) : ∀ (t k : Nat) (b1 : mg_A), k + t = 8 → gCf p b b1 → b1.P 0 p = b.P 0 p → b1.L 0 p = b.L 0 p → b1.L 1 p = b.L 1 p → (∀ j, j < k → b1.L 2 p j = b.L 2 q j ∧ b1.L 3 p j = b.L 3 q j ∧ b1.P 4 p j = b.P 4 q j ∧ b1.P 5 p j = b.P 5 q j) → mi_W d 173 44 [some (.ref p), some (.ref q), some (.int (Int32.ofNat k))] [] (n, sl, hd b1 f0) Q := by
  intro t
  induction t with
  | zero =>
    intro k b1 hk f1 h0 h1 h2 h3
    refine b_173_44 _ _ _ ?_ ?_
    · intro z44
      refine b_173_104 _ _ _ ?_
      exact K b1 f1 h0 h1 h2 (fun j hj => h3 j (by omega))
    · intro z44
      exact absurd ((i_le (a := 8) rfl rfl (by omega) (by omega)).mpr (by omega)) z44
  | succ t ih =>
    intro k b1 hk f1 h0 h1 h2 h3
    have hix := ix_of (w := k) (m := 8) (by omega) (by omega)
    have hp1 := f1.o hp
    have hq1 := f1.o hq
    have hbk := hb k (by omega)
    have e2 := (f1.2.2.2.2.2 2 q hpq).2
    have e3 := (f1.2.2.2.2.2 3 q hpq).2
    have e4 := (f1.2.2.2.2.2 4 q hpq).1
    have e5 := (f1.2.2.2.2.2 5 q hpq).1
    refine b_173_44 _ _ _ ?_ ?_
    · intro z44
      exact absurd ((i_le (a := 8) rfl rfl (by omega) (by omega)).mp z44) (by omega)
    · intro z44
      refine b_173_50 _ _ _ _ _ _ _ _ _ _ _ _ _ _ _ _ _ _ _ _ _ _ _ _ _ _ _ (by first | (exact hd_8 (by assumption)) | assumption) (by omega) (by exact rfl) (by first | (exact hd_8 (by assumption)) | assumption) (by omega) (by exact rfl) (by first | (exact hd_J (by omega) rfl) | (exact hd_L1 (by assumption)) | (exact hd_L2 (by assumption)) | (exact hd_L3 (by assumption)) | assumption) (by omega) (by first | assumption | (exact ix_of (by omega) (by omega)) | (exact ⟨by decide, rfl, by decide⟩)) (by first | (exact hd_J (by omega) rfl) | (exact hd_L1 (by assumption)) | (exact hd_L2 (by assumption)) | (exact hd_L3 (by assumption)) | assumption) (by omega) (by first | assumption | (exact ix_of (by omega) (by omega)) | (exact ⟨by decide, rfl, by decide⟩)) (by first | (exact (congrFun ((by first | exact gw_J (by omega) rfl | exact gw_L1 (by assumption) | exact gw_L2 (by assumption) | exact gw_L3 (by assumption))) _).trans (hd_8 (by assumption))) | assumption) (by omega) (by exact rfl) (by first | (exact (congrFun ((by first | exact gw_J (by omega) rfl | exact gw_L1 (by assumption) | exact gw_L2 (by assumption) | exact gw_L3 (by assumption))) _).trans (hd_8 (by assumption))) | assumption) (by omega) (by exact rfl) (by first | (exact (congrFun ((by first | exact gw_J (by omega) rfl | exact gw_L1 (by assumption) | exact gw_L2 (by assumption) | exact gw_L3 (by assumption))) _).trans (hd_J (by omega) rfl)) | (exact (congrFun ((by first | exact gw_J (by omega) rfl | exact gw_L1 (by assumption) | exact gw_L2 (by assumption) | exact gw_L3 (by assumption))) _).trans (hd_L1 (by assumption))) | (exact (congrFun ((by first | exact gw_J (by omega) rfl | exact gw_L1 (by assumption) | exact gw_L2 (by assumption) | exact gw_L3 (by assumption))) _).trans (hd_L2 (by assumption))) | (exact (congrFun ((by first | exact gw_J (by omega) rfl | exact gw_L1 (by assumption) | exact gw_L2 (by assumption) | exact gw_L3 (by assumption))) _).trans (hd_L3 (by assumption))) | assumption) (by omega) (by first | assumption | (exact ix_of (by omega) (by omega)) | (exact ⟨by decide, rfl, by decide⟩)) (by first | (exact (congrFun ((by first | exact gw_J (by omega) rfl | exact gw_L1 (by assumption) | exact gw_L2 (by assumption) | exact gw_L3 (by assumption))) _).trans (hd_J (by omega) rfl)) | (exact (congrFun ((by first | exact gw_J (by omega) rfl | exact gw_L1 (by assumption) | exact gw_L2 (by assumption) | exact gw_L3 (by assumption))) _).trans (hd_L1 (by assumption))) | (exact (congrFun ((by first | exact gw_J (by omega) rfl | exact gw_L1 (by assumption) | exact gw_L2 (by assumption) | exact gw_L3 (by assumption))) _).trans (hd_L2 (by assumption))) | (exact (congrFun ((by first | exact gw_J (by omega) rfl | exact gw_L1 (by assumption) | exact gw_L2 (by assumption) | exact gw_L3 (by assumption))) _).trans (hd_L3 (by assumption))) | assumption) (by omega) (by first | assumption | (exact ix_of (by omega) (by omega)) | (exact ⟨by decide, rfl, by decide⟩)) (by first | (exact (congrFun (hw_2 ((by first | exact gw_J (by omega) rfl | exact gw_L1 (by assumption) | exact gw_L2 (by assumption) | exact gw_L3 (by assumption))) ((by first | exact gw_J (by omega) rfl | exact gw_L1 (by assumption) | exact gw_L2 (by assumption) | exact gw_L3 (by assumption)))) _).trans (hd_8 (by assumption))) | assumption) (by omega) (by exact rfl) (by first | (exact (congrFun (hw_2 ((by first | exact gw_J (by omega) rfl | exact gw_L1 (by assumption) | exact gw_L2 (by assumption) | exact gw_L3 (by assumption))) ((by first | exact gw_J (by omega) rfl | exact gw_L1 (by assumption) | exact gw_L2 (by assumption) | exact gw_L3 (by assumption)))) _).trans (hd_8 (by assumption))) | assumption) (by omega) (by exact rfl) (by first | (exact (congrFun (hw_2 ((by first | exact gw_J (by omega) rfl | exact gw_L1 (by assumption) | exact gw_L2 (by assumption) | exact gw_L3 (by assumption))) ((by first | exact gw_J (by omega) rfl | exact gw_L1 (by assumption) | exact gw_L2 (by assumption) | exact gw_L3 (by assumption)))) _).trans (hd_P4 (by assumption))) | (exact (congrFun (hw_2 ((by first | exact gw_J (by omega) rfl | exact gw_L1 (by assumption) | exact gw_L2 (by assumption) | exact gw_L3 (by assumption))) ((by first | exact gw_J (by omega) rfl | exact gw_L1 (by assumption) | exact gw_L2 (by assumption) | exact gw_L3 (by assumption)))) _).trans (hd_P5 (by assumption))) | assumption) (by omega) (by first | assumption | (exact ix_of (by omega) (by omega)) | (exact ⟨by decide, rfl, by decide⟩)) (by first | (exact (congrFun (hw_2 ((by first | exact gw_J (by omega) rfl | exact gw_L1 (by assumption) | exact gw_L2 (by assumption) | exact gw_L3 (by assumption))) ((by first | exact gw_J (by omega) rfl | exact gw_L1 (by assumption) | exact gw_L2 (by assumption) | exact gw_L3 (by assumption)))) _).trans (hd_P4 (by assumption))) | (exact (congrFun (hw_2 ((by first | exact gw_J (by omega) rfl | exact gw_L1 (by assumption) | exact gw_L2 (by assumption) | exact gw_L3 (by assumption))) ((by first | exact gw_J (by omega) rfl | exact gw_L1 (by assumption) | exact gw_L2 (by assumption) | exact gw_L3 (by assumption)))) _).trans (hd_P5 (by assumption))) | assumption) (by omega) (by first | assumption | (exact ix_of (by omega) (by omega)) | (exact ⟨by decide, rfl, by decide⟩)) (by first | (exact (congrFun (hw_2 (hw_2 ((by first | exact gw_J (by omega) rfl | exact gw_L1 (by assumption) | exact gw_L2 (by assumption) | exact gw_L3 (by assumption))) ((by first | exact gw_J (by omega) rfl | exact gw_L1 (by assumption) | exact gw_L2 (by assumption) | exact gw_L3 (by assumption)))) ((by first | exact gw_P4 (by assumption) | exact gw_P5 (by assumption)))) _).trans (hd_8 (by assumption))) | assumption) (by omega) (by exact rfl) (by first | (exact (congrFun (hw_2 (hw_2 ((by first | exact gw_J (by omega) rfl | exact gw_L1 (by assumption) | exact gw_L2 (by assumption) | exact gw_L3 (by assumption))) ((by first | exact gw_J (by omega) rfl | exact gw_L1 (by assumption) | exact gw_L2 (by assumption) | exact gw_L3 (by assumption)))) ((by first | exact gw_P4 (by assumption) | exact gw_P5 (by assumption)))) _).trans (hd_8 (by assumption))) | assumption) (by omega) (by exact rfl) (by first | (exact (congrFun (hw_2 (hw_2 ((by first | exact gw_J (by omega) rfl | exact gw_L1 (by assumption) | exact gw_L2 (by assumption) | exact gw_L3 (by assumption))) ((by first | exact gw_J (by omega) rfl | exact gw_L1 (by assumption) | exact gw_L2 (by assumption) | exact gw_L3 (by assumption)))) ((by first | exact gw_P4 (by assumption) | exact gw_P5 (by assumption)))) _).trans (hd_P4 (by assumption))) | (exact (congrFun (hw_2 (hw_2 ((by first | exact gw_J (by omega) rfl | exact gw_L1 (by assumption) | exact gw_L2 (by assumption) | exact gw_L3 (by assumption))) ((by first | exact gw_J (by omega) rfl | exact gw_L1 (by assumption) | exact gw_L2 (by assumption) | exact gw_L3 (by assumption)))) ((by first | exact gw_P4 (by assumption) | exact gw_P5 (by assumption)))) _).trans (hd_P5 (by assumption))) | assumption) (by omega) (by first | assumption | (exact ix_of (by omega) (by omega)) | (exact ⟨by decide, rfl, by decide⟩)) (by first | (exact (congrFun (hw_2 (hw_2 ((by first | exact gw_J (by omega) rfl | exact gw_L1 (by assumption) | exact gw_L2 (by assumption) | exact gw_L3 (by assumption))) ((by first | exact gw_J (by omega) rfl | exact gw_L1 (by assumption) | exact gw_L2 (by assumption) | exact gw_L3 (by assumption)))) ((by first | exact gw_P4 (by assumption) | exact gw_P5 (by assumption)))) _).trans (hd_P4 (by assumption))) | (exact (congrFun (hw_2 (hw_2 ((by first | exact gw_J (by omega) rfl | exact gw_L1 (by assumption) | exact gw_L2 (by assumption) | exact gw_L3 (by assumption))) ((by first | exact gw_J (by omega) rfl | exact gw_L1 (by assumption) | exact gw_L2 (by assumption) | exact gw_L3 (by assumption)))) ((by first | exact gw_P4 (by assumption) | exact gw_P5 (by assumption)))) _).trans (hd_P5 (by assumption))) | assumption) (by omega) (by first | assumption | (exact ix_of (by omega) (by omega)) | (exact ⟨by decide, rfl, by decide⟩)) ?_
      refine hw_W (hw_2 (hw_2 (hw_2 ((by first | exact gw_J (by omega) rfl | exact gw_L1 (by assumption) | exact gw_L2 (by assumption) | exact gw_L3 (by assumption))) ((by first | exact gw_J (by omega) rfl | exact gw_L1 (by assumption) | exact gw_L2 (by assumption) | exact gw_L3 (by assumption)))) ((by first | exact gw_P4 (by assumption) | exact gw_P5 (by assumption)))) ((by first | exact gw_P4 (by assumption) | exact gw_P5 (by assumption)))) ?_
      rw [of_succ]
      refine ih (k + 1) _ (by omega) f1.sL.sL.sP.sP h0 h1 h2 (fun j hj => ?_)
      show (mh_v b1.L 2 p (vp_updL (b1.L 2 p) k (b1.L 2 q k))) 2 p j = b.L 2 q j ∧ (mh_v (mh_v b1.L 2 p (vp_updL (b1.L 2 p) k (b1.L 2 q k))) 3 p (vp_updL (b1.L 3 p) k (b1.L 3 q k))) 3 p j = b.L 3 q j ∧ (mh_v b1.P 4 p (upd (b1.P 4 p) k (vp_nar .boolean (b1.P 4 q k)))) 4 p j = b.P 4 q j ∧ (mh_v (mh_v b1.P 4 p (upd (b1.P 4 p) k (vp_nar .boolean (b1.P 4 q k)))) 5 p (upd (b1.P 5 p) k (vp_nar .boolean (b1.P 5 q k)))) 5 p j = b.P 5 q j
      rw [mh_v_at, mh_v_at, mh_v_at, mh_v_at, e2, e3, e4, e5, vn_b hbk.1, vn_b hbk.2]
      by_cases e : j = k
      · rw [e, upL_at, upL_at, upd_at, upd_at]
        exact ⟨rfl, rfl, rfl, rfl⟩
      · rw [upL_ne e, upL_ne e, upd_ne e, upd_ne e]
        exact h3 j (by omega)
theorem g_copy (hn : 575 ≤ n) (hpn : p + 5 < n) (hqn : q + 5 < n) (hp : mg_o b.D p) (hq : mg_S b q S) (hpq : ¬ q = p) (K : ∀ b', gCf p b b' → mg_S b' p S → Q (.inl none) (n, sl, hd b' f0)) : mi_W d 173 0 (mi_en 3 [.ref p, .ref q]) [] (n, sl, hd b f0) Q := by
  obtain ⟨hqo, s1, s2, s3, s4, s5⟩ := hq
  have e1 : ((b.sP 0 p (fun _ => b.P 0 q 0))).L 0 q 0 = b.L 0 q 0 := rfl
  refine b_173_0 _ _ _ (by first | (exact hd_8 (by assumption)) | assumption) (by omega) (by exact rfl) (by first | (exact hd_8 (by assumption)) | assumption) (by omega) (Nat.le_of_ble_eq_true rfl) (by first | (exact (congrFun (gw_at (by assumption)) _).trans (hd_8 (by assumption))) | assumption) (by omega) (by exact rfl) (by first | (exact (congrFun (gw_at (by assumption)) _).trans (hd_8 (by assumption))) | assumption) (by omega) (Nat.le_of_ble_eq_true rfl) ?_
  refine hw_W (hw_2 (gw_at (by assumption)) (gw_tm (by assumption))) ?_
  refine g_cp1 hn hpn hqn hp hqo hpq (fun b1 l3 f1 h0 h1 h2 => ?_) 32 0 _ rfl gCf.re.sP.sL (by show (mh_v b.P 0 p (fun _ => b.P 0 q 0)) 0 p 0 = b.P 0 q 0; rw [mh_v_at]) (by show (mh_v b.L 0 p (fun _ => b.L 0 q 0)) 0 p 0 = b.L 0 q 0; rw [mh_v_at]) (fun j hj => absurd hj (Nat.not_lt_zero j))
  refine b_173_42 _ _ _ ?_
  have eq4 := (f1.2.2.2.2.2 4 q hpq).1
  have eq5 := (f1.2.2.2.2.2 5 q hpq).1
  have eq2 := (f1.2.2.2.2.2 2 q hpq).2
  have eq3 := (f1.2.2.2.2.2 3 q hpq).2
  refine g_cp2 hn hpn hqn (f1.o hp) (f1.o hqo) hpq (fun j hj => by rw [eq4, eq5]; exact ⟨(s4 j hj).1, (s5 j hj).1⟩) (fun b2 f2 k0 k1 k2 k3 => ?_) 8 0 b1 rfl gCf.re rfl rfl rfl (fun j hj => absurd hj (Nat.not_lt_zero j))
  refine K b2 (f1.trans f2) ⟨(f1.trans f2).o hp, ?_, ?_, fun j hj => ?_, fun j hj => ?_, fun j hj => ?_⟩
  · rw [k0, h0]
    exact s1
  · rw [k1, h1]
    exact s2
  · rw [k2, h2 j hj]
    exact s3 j hj
  · rw [(k3 j hj).1, (k3 j hj).2.2.1, eq2, eq4]
    exact s4 j hj
  · rw [(k3 j hj).2.1, (k3 j hj).2.2.2, eq3, eq5]
    exact s5 j hj
end
