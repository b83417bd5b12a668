/-! the first object: a new node; a name -/
def ct_add (a : mh_A) (m : Nat) (kd : Int32) (v : Int64) : mh_A := ((((((((((a.sAI 2 3 0 (upd (a.AI 2 3 0) m kd)).sAI 2 3 1 (upd (a.AI 2 3 1) m (-1))).sAI 2 3 2 (upd (a.AI 2 3 2) m (-1))).sAI 2 3 3 (upd (a.AI 2 3 3) m (-1))).sAI 2 3 4 (upd (a.AI 2 3 4) m (-1))).sAI 2 3 5 (upd (a.AI 2 3 5) m (-1))).sAI 2 3 6 (upd (a.AI 2 3 6) m (-1))).sAI 2 3 7 (upd (a.AI 2 3 7) m (Int32.ofNat m + 1))).sAI 2 3 8 (upd (a.AI 2 3 8) m (vp_nar .boolean 0))).sAL 2 3 9 (vp_updL (a.AL 2 3 9) m v)).sI 2 3 11 (Int32.ofNat m + 1)
section
variable {a : mh_A} {m kd m' : Nat} {v : Int64} {g : Nat → Int32} {L : Nat} {σ : ms_S}
theorem upd_at {h : Nat → Int32} {x : Int32} : upd h m x m = x := by simp [upd]
theorem upd_ne {h : Nat → Int32} {x : Int32} (e : ¬ m' = m) : upd h m x m' = h m' := by simp [upd, e]
theorem lt9 {k : Nat} (h : k < 9) : k = 0 ∨ k = 1 ∨ k = 2 ∨ k = 3 ∨ k = 4 ∨ k = 5 ∨ k = 6 ∨ k = 7 ∨ k = 8 := by omega
theorem ct_B : cB (ct_add a m (Int32.ofNat kd) v) m (cR0 kd m) v := by
  refine ⟨fun k hk => ?_, ?_⟩
  · rcases lt9 hk with rfl | rfl | rfl | rfl | rfl | rfl | rfl | rfl | rfl
    · exact upd_at (h := a.AI 2 3 0)
    · exact upd_at (h := a.AI 2 3 1)
    · exact upd_at (h := a.AI 2 3 2)
    · exact upd_at (h := a.AI 2 3 3)
    · exact upd_at (h := a.AI 2 3 4)
    · exact upd_at (h := a.AI 2 3 5)
    · exact upd_at (h := a.AI 2 3 6)
    · exact (upd_at (h := a.AI 2 3 7)).trans (of_succ m)
    · exact upd_at (h := a.AI 2 3 8)
  · show vp_updL (a.AL 2 3 9) m v m = v
    simp [vp_updL]
theorem ct_old (h : ¬ m' = m) {k : Nat} (hk : k < 9) : (ct_add a m (Int32.ofNat kd) v).AI 2 3 k m' = a.AI 2 3 k m' := by
  rcases lt9 hk with rfl | rfl | rfl | rfl | rfl | rfl | rfl | rfl | rfl
  · exact upd_ne (h := a.AI 2 3 0) h
  · exact upd_ne (h := a.AI 2 3 1) h
  · exact upd_ne (h := a.AI 2 3 2) h
  · exact upd_ne (h := a.AI 2 3 3) h
  · exact upd_ne (h := a.AI 2 3 4) h
  · exact upd_ne (h := a.AI 2 3 5) h
  · exact upd_ne (h := a.AI 2 3 6) h
  · exact upd_ne (h := a.AI 2 3 7) h
  · exact upd_ne (h := a.AI 2 3 8) h
theorem ct_go : cgo a σ (ct_add a σ.n (Int32.ofNat kd) v) σ.add := by
  refine ⟨⟨fun c p k hc => ⟨?_, rfl, ?_, ?_⟩, rfl, rfl, rfl⟩, fun m' hm => ⟨fun k hk => ct_old (by omega) hk, ?_⟩, ⟨Nat.le_succ _, Nat.le_refl _, fun _ _ => rfl, fun _ _ => rfl⟩, rfl⟩
  · exact mh_u_c (by omega)
  · have h2 : ¬ c = 2 := by omega
    exact (mh_u_c h2).trans ((mh_u_c h2).trans ((mh_u_c h2).trans ((mh_u_c h2).trans ((mh_u_c h2).trans ((mh_u_c h2).trans ((mh_u_c h2).trans ((mh_u_c h2).trans (mh_u_c h2))))))))
  · exact mh_u_c (by omega)
  · show vp_updL (a.AL 2 3 9) σ.n v m' = _
    simp [vp_updL, show ¬ m' = σ.n by omega]
theorem ct_st (h : cst a g L σ) (h8 : σ.n < 800) : cst (ct_add a σ.n (Int32.ofNat kd) v) g L σ.add := by
  obtain ⟨e1, ⟨e2, e3⟩, r⟩ := h
  exact ⟨e1, ⟨of_succ σ.n, h8⟩, r⟩
end
section
variable {d n sl : Nat} {a a0 : mh_A} {σ σ0 : ms_S} {f0 : Nat → mi_C} {Q : (Option Value ⊕ Nat) → mi_H → Prop} {g : Nat → Int32} {L : Nat}
theorem cj_min {x y : Int32} {f : Nat → mi_C} (K : Q (.inl (some (.int (if y < x then y else x)))) (n, sl, f)) : mi_W d 23 0 (mi_en 2 [.int x, .int y]) [] (n, sl, f) Q := by
  refine b_23_0 _ _ _ (fun h => ?_) (fun h => ?_)
  · refine b_23_9 _ _ _ ?_
    refine b_23_10 _ _ _ ?_
    rw [if_pos h] at K
    exact K
  · refine b_23_5 _ _ _ ?_
    refine b_23_10 _ _ _ ?_
    rw [if_neg h] at K
    exact K
theorem ct_addm {m : Nat} {kd : Int32} {v : Int64} (hn : 575 ≤ n) (h11 : a.I 2 3 11 = Int32.ofNat m) (hm : m < 800) (K : Q (.inl (some (.int (Int32.ofNat m)))) (n, sl, hc (ct_add a m kd v) f0)) : mi_W (d + 1) 41 0 (mi_en 5 [.ref 3, .int kd, .long v]) [] (n, sl, hc a f0) Q := by
  have hx := ix_of (w := m) (m := 800) (by omega) (by omega)
  have hnl : ¬ (799 : Int32) < a.I 2 3 11 := fun h => absurd ((i_lt (a := 799) rfl h11 (by omega) (by omega)).mp h) (by omega)
  refine b_41_0 _ _ _ (by first | (exact hc_o (by first | assumption | (exact ⟨by decide, rfl⟩))) | assumption | (exact (hc_far (by omega)).trans (by assumption))) (by omega) (by first | rfl | assumption) ?_
  refine cj_min ?_
  rw [if_neg hnl, h11]
  refine b_41_10 _ _ _ _ _ _ _ _ _ _ _ _ _ _ _ _ _ _ _ _ _ (by first | (exact hc_o (by first | assumption | (exact ⟨by decide, rfl⟩))) | assumption | (exact (hc_far (by omega)).trans (by assumption))) (by omega) (by first | rfl | assumption) (by first | (exact hc_ai (by omega) (by first | assumption | (exact (ht9 (by assumption)).2.1) | (exact (ht9 (by assumption)).2.2.1) | (exact (ht9 (by assumption)).2.2.2) | rfl) (by decide)) | assumption | (exact (hc_far (by omega)).trans (by assumption))) (by omega) (by first | assumption | (exact ix_of (by omega) (by omega)) | (exact ⟨by decide, rfl, by decide⟩)) (by first | (exact (congrFun (hw_AI (by omega) (by first | assumption | (exact (ht9 (by assumption)).2.1) | (exact (ht9 (by assumption)).2.2.1) | (exact (ht9 (by assumption)).2.2.2) | rfl) (by decide)) _).trans (hc_o (by first | assumption | (exact ⟨by decide, rfl⟩)))) | assumption | (exact (hc_far (by omega)).trans (by assumption))) (by omega) (by first | rfl | assumption) (by first | (exact (congrFun (hw_AI (by omega) (by first | assumption | (exact (ht9 (by assumption)).2.1) | (exact (ht9 (by assumption)).2.2.1) | (exact (ht9 (by assumption)).2.2.2) | rfl) (by decide)) _).trans (hc_ai (by omega) (by first | assumption | (exact (ht9 (by assumption)).2.1) | (exact (ht9 (by assumption)).2.2.1) | (exact (ht9 (by assumption)).2.2.2) | rfl) (by decide))) | assumption | (exact (hc_far (by omega)).trans (by assumption))) (by omega) (by first | assumption | (exact ix_of (by omega) (by omega)) | (exact ⟨by decide, rfl, by decide⟩)) (by first | (exact (congrFun (hw_2 (hw_AI (by omega) (by first | assumption | (exact (ht9 (by assumption)).2.1) | (exact (ht9 (by assumption)).2.2.1) | (exact (ht9 (by assumption)).2.2.2) | rfl) (by decide)) (hw_AI (by omega) (by first | assumption | (exact (ht9 (by assumption)).2.1) | (exact (ht9 (by assumption)).2.2.1) | (exact (ht9 (by assumption)).2.2.2) | rfl) (by decide))) _).trans (hc_o (by first | assumption | (exact ⟨by decide, rfl⟩)))) | assumption | (exact (hc_far (by omega)).trans (by assumption))) (by omega) (by first | rfl | assumption) (by first | (exact (congrFun (hw_2 (hw_AI (by omega) (by first | assumption | (exact (ht9 (by assumption)).2.1) | (exact (ht9 (by assumption)).2.2.1) | (exact (ht9 (by assumption)).2.2.2) | rfl) (by decide)) (hw_AI (by omega) (by first | assumption | (exact (ht9 (by assumption)).2.1) | (exact (ht9 (by assumption)).2.2.1) | (exact (ht9 (by assumption)).2.2.2) | rfl) (by decide))) _).trans (hc_ai (by omega) (by first | assumption | (exact (ht9 (by assumption)).2.1) | (exact (ht9 (by assumption)).2.2.1) | (exact (ht9 (by assumption)).2.2.2) | rfl) (by decide))) | assumption | (exact (hc_far (by omega)).trans (by assumption))) (by omega) (by first | assumption | (exact ix_of (by omega) (by omega)) | (exact ⟨by decide, rfl, by decide⟩)) (by first | (exact (congrFun (hw_2 (hw_2 (hw_AI (by omega) (by first | assumption | (exact (ht9 (by assumption)).2.1) | (exact (ht9 (by assumption)).2.2.1) | (exact (ht9 (by assumption)).2.2.2) | rfl) (by decide)) (hw_AI (by omega) (by first | assumption | (exact (ht9 (by assumption)).2.1) | (exact (ht9 (by assumption)).2.2.1) | (exact (ht9 (by assumption)).2.2.2) | rfl) (by decide))) (hw_AI (by omega) (by first | assumption | (exact (ht9 (by assumption)).2.1) | (exact (ht9 (by assumption)).2.2.1) | (exact (ht9 (by assumption)).2.2.2) | rfl) (by decide))) _).trans (hc_o (by first | assumption | (exact ⟨by decide, rfl⟩)))) | assumption | (exact (hc_far (by omega)).trans (by assumption))) (by omega) (by first | rfl | assumption) (by first | (exact (congrFun (hw_2 (hw_2 (hw_AI (by omega) (by first | assumption | (exact (ht9 (by assumption)).2.1) | (exact (ht9 (by assumption)).2.2.1) | (exact (ht9 (by assumption)).2.2.2) | rfl) (by decide)) (hw_AI (by omega) (by first | assumption | (exact (ht9 (by assumption)).2.1) | (exact (ht9 (by assumption)).2.2.1) | (exact (ht9 (by assumption)).2.2.2) | rfl) (by decide))) (hw_AI (by omega) (by first | assumption | (exact (ht9 (by assumption)).2.1) | (exact (ht9 (by assumption)).2.2.1) | (exact (ht9 (by assumption)).2.2.2) | rfl) (by decide))) _).trans (hc_ai (by omega) (by first | assumption | (exact (ht9 (by assumption)).2.1) | (exact (ht9 (by assumption)).2.2.1) | (exact (ht9 (by assumption)).2.2.2) | rfl) (by decide))) | assumption | (exact (hc_far (by omega)).trans (by assumption))) (by omega) (by first | assumption | (exact ix_of (by omega) (by omega)) | (exact ⟨by decide, rfl, by decide⟩)) (by first | (exact (congrFun (hw_2 (hw_2 (hw_2 (hw_AI (by omega) (by first | assumption | (exact (ht9 (by assumption)).2.1) | (exact (ht9 (by assumption)).2.2.1) | (exact (ht9 (by assumption)).2.2.2) | rfl) (by decide)) (hw_AI (by omega) (by first | assumption | (exact (ht9 (by assumption)).2.1) | (exact (ht9 (by assumption)).2.2.1) | (exact (ht9 (by assumption)).2.2.2) | rfl) (by decide))) (hw_AI (by omega) (by first | assumption | (exact (ht9 (by assumption)).2.1) | (exact (ht9 (by assumption)).2.2.1) | (exact (ht9 (by assumption)).2.2.2) | rfl) (by decide))) (hw_AI (by omega) (by first | assumption | (exact (ht9 (by assumption)).2.1) | (exact (ht9 (by assumption)).2.2.1) | (exact (ht9 (by assumption)).2.2.2) | rfl) (by decide))) _).trans (hc_o (by first | assumption | (exact ⟨by decide, rfl⟩)))) | assumption | (exact (hc_far (by omega)).trans (by assumption))) (by omega) (by first | rfl | assumption) (by first | (exact (congrFun (hw_2 (hw_2 (hw_2 (hw_AI (by omega) (by first | assumption | (exact (ht9 (by assumption)).2.1) | (exact (ht9 (by assumption)).2.2.1) | (exact (ht9 (by assumption)).2.2.2) | rfl) (by decide)) (hw_AI (by omega) (by first | assumption | (exact (ht9 (by assumption)).2.1) | (exact (ht9 (by assumption)).2.2.1) | (exact (ht9 (by assumption)).2.2.2) | rfl) (by decide))) (hw_AI (by omega) (by first | assumption | (exact (ht9 (by assumption)).2.1) | (exact (ht9 (by assumption)).2.2.1) | (exact (ht9 (by assumption)).2.2.2) | rfl) (by decide))) (hw_AI (by omega) (by first | assumption | (exact (ht9 (by assumption)).2.1) | (exact (ht9 (by assumption)).2.2.1) | (exact (ht9 (by assumption)).2.2.2) | rfl) (by decide))) _).trans (hc_ai (by omega) (by first | assumption | (exact (ht9 (by assumption)).2.1) | (exact (ht9 (by assumption)).2.2.1) | (exact (ht9 (by assumption)).2.2.2) | rfl) (by decide))) | assumption | (exact (hc_far (by omega)).trans (by assumption))) (by omega) (by first | assumption | (exact ix_of (by omega) (by omega)) | (exact ⟨by decide, rfl, by decide⟩)) (by first | (exact (congrFun (hw_2 (hw_2 (hw_2 (hw_2 (hw_AI (by omega) (by first | assumption | (exact (ht9 (by assumption)).2.1) | (exact (ht9 (by assumption)).2.2.1) | (exact (ht9 (by assumption)).2.2.2) | rfl) (by decide)) (hw_AI (by omega) (by first | assumption | (exact (ht9 (by assumption)).2.1) | (exact (ht9 (by assumption)).2.2.1) | (exact (ht9 (by assumption)).2.2.2) | rfl) (by decide))) (hw_AI (by omega) (by first | assumption | (exact (ht9 (by assumption)).2.1) | (exact (ht9 (by assumption)).2.2.1) | (exact (ht9 (by assumption)).2.2.2) | rfl) (by decide))) (hw_AI (by omega) (by first | assumption | (exact (ht9 (by assumption)).2.1) | (exact (ht9 (by assumption)).2.2.1) | (exact (ht9 (by assumption)).2.2.2) | rfl) (by decide))) (hw_AI (by omega) (by first | assumption | (exact (ht9 (by assumption)).2.1) | (exact (ht9 (by assumption)).2.2.1) | (exact (ht9 (by assumption)).2.2.2) | rfl) (by decide))) _).trans (hc_o (by first | assumption | (exact ⟨by decide, rfl⟩)))) | assumption | (exact (hc_far (by omega)).trans (by assumption))) (by omega) (by first | rfl | assumption) (by first | (exact (congrFun (hw_2 (hw_2 (hw_2 (hw_2 (hw_AI (by omega) (by first | assumption | (exact (ht9 (by assumption)).2.1) | (exact (ht9 (by assumption)).2.2.1) | (exact (ht9 (by assumption)).2.2.2) | rfl) (by decide)) (hw_AI (by omega) (by first | assumption | (exact (ht9 (by assumption)).2.1) | (exact (ht9 (by assumption)).2.2.1) | (exact (ht9 (by assumption)).2.2.2) | rfl) (by decide))) (hw_AI (by omega) (by first | assumption | (exact (ht9 (by assumption)).2.1) | (exact (ht9 (by assumption)).2.2.1) | (exact (ht9 (by assumption)).2.2.2) | rfl) (by decide))) (hw_AI (by omega) (by first | assumption | (exact (ht9 (by assumption)).2.1) | (exact (ht9 (by assumption)).2.2.1) | (exact (ht9 (by assumption)).2.2.2) | rfl) (by decide))) (hw_AI (by omega) (by first | assumption | (exact (ht9 (by assumption)).2.1) | (exact (ht9 (by assumption)).2.2.1) | (exact (ht9 (by assumption)).2.2.2) | rfl) (by decide))) _).trans (hc_ai (by omega) (by first | assumption | (exact (ht9 (by assumption)).2.1) | (exact (ht9 (by assumption)).2.2.1) | (exact (ht9 (by assumption)).2.2.2) | rfl) (by decide))) | assumption | (exact (hc_far (by omega)).trans (by assumption))) (by omega) (by first | assumption | (exact ix_of (by omega) (by omega)) | (exact ⟨by decide, rfl, by decide⟩)) ?_
  refine hw_W (hw_2 (hw_2 (hw_2 (hw_2 (hw_2 (hw_AI (by omega) (by first | assumption | (exact (ht9 (by assumption)).2.1) | (exact (ht9 (by assumption)).2.2.1) | (exact (ht9 (by assumption)).2.2.2) | rfl) (by decide)) (hw_AI (by omega) (by first | assumption | (exact (ht9 (by assumption)).2.1) | (exact (ht9 (by assumption)).2.2.1) | (exact (ht9 (by assumption)).2.2.2) | rfl) (by decide))) (hw_AI (by omega) (by first | assumption | (exact (ht9 (by assumption)).2.1) | (exact (ht9 (by assumption)).2.2.1) | (exact (ht9 (by assumption)).2.2.2) | rfl) (by decide))) (hw_AI (by omega) (by first | assumption | (exact (ht9 (by assumption)).2.1) | (exact (ht9 (by assumption)).2.2.1) | (exact (ht9 (by assumption)).2.2.2) | rfl) (by decide))) (hw_AI (by omega) (by first | assumption | (exact (ht9 (by assumption)).2.1) | (exact (ht9 (by assumption)).2.2.1) | (exact (ht9 (by assumption)).2.2.2) | rfl) (by decide))) (hw_AI (by omega) (by first | assumption | (exact (ht9 (by assumption)).2.1) | (exact (ht9 (by assumption)).2.2.1) | (exact (ht9 (by assumption)).2.2.2) | rfl) (by decide))) ?_
  refine b_41_60 _ _ _ _ _ _ _ _ _ _ _ _ _ _ _ (by first | (exact hc_o (by first | assumption | (exact ⟨by decide, rfl⟩))) | assumption | (exact (hc_far (by omega)).trans (by assumption))) (by omega) (by first | rfl | assumption) (by first | (exact hc_ai (by omega) (by first | assumption | (exact (ht9 (by assumption)).2.1) | (exact (ht9 (by assumption)).2.2.1) | (exact (ht9 (by assumption)).2.2.2) | rfl) (by decide)) | assumption | (exact (hc_far (by omega)).trans (by assumption))) (by omega) (by first | assumption | (exact ix_of (by omega) (by omega)) | (exact ⟨by decide, rfl, by decide⟩)) (by first | (exact (congrFun (hw_AI (by omega) (by first | assumption | (exact (ht9 (by assumption)).2.1) | (exact (ht9 (by assumption)).2.2.1) | (exact (ht9 (by assumption)).2.2.2) | rfl) (by decide)) _).trans (hc_o (by first | assumption | (exact ⟨by decide, rfl⟩)))) | assumption | (exact (hc_far (by omega)).trans (by assumption))) (by omega) (by first | rfl | assumption) (by first | (exact (congrFun (hw_AI (by omega) (by first | assumption | (exact (ht9 (by assumption)).2.1) | (exact (ht9 (by assumption)).2.2.1) | (exact (ht9 (by assumption)).2.2.2) | rfl) (by decide)) _).trans (hc_ai (by omega) (by first | assumption | (exact (ht9 (by assumption)).2.1) | (exact (ht9 (by assumption)).2.2.1) | (exact (ht9 (by assumption)).2.2.2) | rfl) (by decide))) | assumption | (exact (hc_far (by omega)).trans (by assumption))) (by omega) (by first | assumption | (exact ix_of (by omega) (by omega)) | (exact ⟨by decide, rfl, by decide⟩)) (by first | (exact (congrFun (hw_2 (hw_AI (by omega) (by first | assumption | (exact (ht9 (by assumption)).2.1) | (exact (ht9 (by assumption)).2.2.1) | (exact (ht9 (by assumption)).2.2.2) | rfl) (by decide)) (hw_AI (by omega) (by first | assumption | (exact (ht9 (by assumption)).2.1) | (exact (ht9 (by assumption)).2.2.1) | (exact (ht9 (by assumption)).2.2.2) | rfl) (by decide))) _).trans (hc_o (by first | assumption | (exact ⟨by decide, rfl⟩)))) | assumption | (exact (hc_far (by omega)).trans (by assumption))) (by omega) (by first | rfl | assumption) (by first | (exact (congrFun (hw_2 (hw_AI (by omega) (by first | assumption | (exact (ht9 (by assumption)).2.1) | (exact (ht9 (by assumption)).2.2.1) | (exact (ht9 (by assumption)).2.2.2) | rfl) (by decide)) (hw_AI (by omega) (by first | assumption | (exact (ht9 (by assumption)).2.1) | (exact (ht9 (by assumption)).2.2.1) | (exact (ht9 (by assumption)).2.2.2) | rfl) (by decide))) _).trans (hc_ai (by omega) (by first | assumption | (exact (ht9 (by assumption)).2.1) | (exact (ht9 (by assumption)).2.2.1) | (exact (ht9 (by assumption)).2.2.2) | rfl) (by decide))) | assumption | (exact (hc_far (by omega)).trans (by assumption))) (by omega) (by first | assumption | (exact ix_of (by omega) (by omega)) | (exact ⟨by decide, rfl, by decide⟩)) (by first | (exact (congrFun (hw_2 (hw_2 (hw_AI (by omega) (by first | assumption | (exact (ht9 (by assumption)).2.1) | (exact (ht9 (by assumption)).2.2.1) | (exact (ht9 (by assumption)).2.2.2) | rfl) (by decide)) (hw_AI (by omega) (by first | assumption | (exact (ht9 (by assumption)).2.1) | (exact (ht9 (by assumption)).2.2.1) | (exact (ht9 (by assumption)).2.2.2) | rfl) (by decide))) (hw_AI (by omega) (by first | assumption | (exact (ht9 (by assumption)).2.1) | (exact (ht9 (by assumption)).2.2.1) | (exact (ht9 (by assumption)).2.2.2) | rfl) (by decide))) _).trans (hc_o (by first | assumption | (exact ⟨by decide, rfl⟩)))) | assumption | (exact (hc_far (by omega)).trans (by assumption))) (by omega) (by first | rfl | assumption) (by first | (exact (congrFun (hw_2 (hw_2 (hw_AI (by omega) (by first | assumption | (exact (ht9 (by assumption)).2.1) | (exact (ht9 (by assumption)).2.2.1) | (exact (ht9 (by assumption)).2.2.2) | rfl) (by decide)) (hw_AI (by omega) (by first | assumption | (exact (ht9 (by assumption)).2.1) | (exact (ht9 (by assumption)).2.2.1) | (exact (ht9 (by assumption)).2.2.2) | rfl) (by decide))) (hw_AI (by omega) (by first | assumption | (exact (ht9 (by assumption)).2.1) | (exact (ht9 (by assumption)).2.2.1) | (exact (ht9 (by assumption)).2.2.2) | rfl) (by decide))) _).trans (hc_al (by omega) (by first | assumption | (exact (ht9 (by assumption)).2.1) | (exact (ht9 (by assumption)).2.2.1) | (exact (ht9 (by assumption)).2.2.2) | rfl))) | assumption | (exact (hc_far (by omega)).trans (by assumption))) (by omega) (by first | assumption | (exact ix_of (by omega) (by omega)) | (exact ⟨by decide, rfl, by decide⟩)) (by first | (exact (congrFun (hw_2 (hw_2 (hw_2 (hw_AI (by omega) (by first | assumption | (exact (ht9 (by assumption)).2.1) | (exact (ht9 (by assumption)).2.2.1) | (exact (ht9 (by assumption)).2.2.2) | rfl) (by decide)) (hw_AI (by omega) (by first | assumption | (exact (ht9 (by assumption)).2.1) | (exact (ht9 (by assumption)).2.2.1) | (exact (ht9 (by assumption)).2.2.2) | rfl) (by decide))) (hw_AI (by omega) (by first | assumption | (exact (ht9 (by assumption)).2.1) | (exact (ht9 (by assumption)).2.2.1) | (exact (ht9 (by assumption)).2.2.2) | rfl) (by decide))) (hw_AL (by omega) (by first | assumption | (exact (ht9 (by assumption)).2.1) | (exact (ht9 (by assumption)).2.2.1) | (exact (ht9 (by assumption)).2.2.2) | rfl))) _).trans (hc_o (by first | assumption | (exact ⟨by decide, rfl⟩)))) | assumption | (exact (hc_far (by omega)).trans (by assumption))) (by omega) (Nat.le_of_ble_eq_true rfl) ?_
  refine hw_Q (hw_2 (hw_2 (hw_2 (hw_2 (hw_AI (by omega) (by first | assumption | (exact (ht9 (by assumption)).2.1) | (exact (ht9 (by assumption)).2.2.1) | (exact (ht9 (by assumption)).2.2.2) | rfl) (by decide)) (hw_AI (by omega) (by first | assumption | (exact (ht9 (by assumption)).2.1) | (exact (ht9 (by assumption)).2.2.1) | (exact (ht9 (by assumption)).2.2.2) | rfl) (by decide))) (hw_AI (by omega) (by first | assumption | (exact (ht9 (by assumption)).2.1) | (exact (ht9 (by assumption)).2.2.1) | (exact (ht9 (by assumption)).2.2.2) | rfl) (by decide))) (hw_AL (by omega) (by first | assumption | (exact (ht9 (by assumption)).2.1) | (exact (ht9 (by assumption)).2.2.1) | (exact (ht9 (by assumption)).2.2.2) | rfl))) (hw_I (by first | assumption | (exact ⟨by decide, rfl⟩)) (by decide))) ?_
  exact K
theorem cr_node (hG : cG n sl f0) (h : cst a g L σ) (ok : σ.n < 800 → ∀ a' v, cst a' g L (σ.add.nx g L) → cgo a σ a' (σ.add.nx g L) → (v = if σ.t.k = 37 then σ.t.v else 0) → cB a' σ.n (cR0 σ.t.k σ.n) v → Q (.inl (some (.int (Int32.ofNat σ.n)))) (n, sl, hc a' f0)) (er : σ.n = 800 → cEr n sl f0 Q a σ.t.a) : mi_W (d + 7) 40 0 (mi_en 2 [.ref 15]) [] (n, sl, hc a f0) Q := by
  have hn := hG.1
  have h40 := h.1.k40
  have h2 := h.1.2.2.2.1
  have h11 := h.2.1.1
  have hn8 := h.2.1.2
  refine b_40_0 _ _ _ (by first | (exact hc_o (by first | assumption | (exact ⟨by decide, rfl⟩))) | assumption | (exact (hc_far (by omega)).trans (by assumption))) (by omega) (by first | rfl | assumption) (by first | (exact hc_o (by first | assumption | (exact ⟨by decide, rfl⟩))) | assumption | (exact (hc_far (by omega)).trans (by assumption))) (by omega) (by first | rfl | assumption) ?_ ?_
  · intro z0
    have h8 : σ.n = 800 := Nat.le_antisymm hn8 ((i_le (a := 800) rfl h11 (by omega) (by omega)).mp z0)
    refine b_40_18 _ _ _ ?_
    refine b_40_19 _ _ _ (by first | (exact hc_o (by first | assumption | (exact ⟨by decide, rfl⟩))) | assumption | (exact (hc_far (by omega)).trans (by assumption))) (by omega) ?_
    refine cr_re0 hn hG.2.1 ?_
    refine hx_c (by decide +kernel) (by omega) ?_
    exact (er h8).at cF.re h.1.2.2.2.2.1
  · intro z0
    have h8 : σ.n < 800 := Nat.lt_of_not_le (fun e => z0 ((i_le (a := 800) rfl h11 (by omega) (by omega)).mpr e))
    refine b_40_14 _ _ _ ?_
    refine b_40_19 _ _ _ (by first | (exact hc_o (by first | assumption | (exact ⟨by decide, rfl⟩))) | assumption | (exact (hc_far (by omega)).trans (by assumption))) (by omega) ?_
    refine cr_re1 hn hG.2.1 ?_
    refine b_40_22 _ _ _ (by first | (exact hc_o (by first | assumption | (exact ⟨by decide, rfl⟩))) | assumption | (exact (hc_far (by omega)).trans (by assumption))) (by omega) (by first | rfl | assumption) (by first | (exact hc_o (by first | assumption | (exact ⟨by decide, rfl⟩))) | assumption | (exact (hc_far (by omega)).trans (by assumption))) (by omega) (by first | rfl | assumption) (by first | (exact hc_o (by first | assumption | (exact ⟨by decide, rfl⟩))) | assumption | (exact (hc_far (by omega)).trans (by assumption))) (by omega) (by first | rfl | assumption) (by first | (exact hc_o (by first | assumption | (exact ⟨by decide, rfl⟩))) | assumption | (exact (hc_far (by omega)).trans (by assumption))) (by omega) (by first | rfl | assumption) (by first | (exact hc_o (by first | assumption | (exact ⟨by decide, rfl⟩))) | assumption | (exact (hc_far (by omega)).trans (by assumption))) (by omega) (by first | rfl | assumption) ?_ ?_
    · intro z22
      refine b_40_55 _ _ _ ?_
      have hv : (0 : Int64) = if σ.t.k = 37 then σ.t.v else 0 := by rw [if_neg (fun e => z22 ((i_eq (b := 37) h2 rfl (by omega) (by omega)).mpr e))]
      refine b_40_56 _ _ _ (by first | (exact hc_o (by first | assumption | (exact ⟨by decide, rfl⟩))) | assumption | (exact (hc_far (by omega)).trans (by assumption))) (by omega) ?_
      rw [h2]
      refine ct_addm hn h11 h8 ?_
      refine b_40_59 _ _ _ (by first | (exact hc_o (by first | assumption | (exact ⟨by decide, rfl⟩))) | assumption | (exact (hc_far (by omega)).trans (by assumption))) (by omega) (by first | rfl | assumption) (by first | (exact hc_o (by first | assumption | (exact ⟨by decide, rfl⟩))) | assumption | (exact (hc_far (by omega)).trans (by assumption))) (by omega) ?_
      refine cr_adv (d := d) hG (ct_st h h8) (fun a' h1 h3 h4 h5 => ?_)
      refine b_40_67 _ _ _ ?_
      exact ok h8 a' _ h1 (ct_go.trans h3) hv (ct_B.go h3 (Nat.lt_succ_self _))
    · intro z22
      refine b_40_45 _ _ _ (by first | (exact hc_o (by first | assumption | (exact ⟨by decide, rfl⟩))) | assumption | (exact (hc_far (by omega)).trans (by assumption))) (by omega) (by first | rfl | assumption) (by first | (exact hc_o (by first | assumption | (exact ⟨by decide, rfl⟩))) | assumption | (exact (hc_far (by omega)).trans (by assumption))) (by omega) (by first | rfl | assumption) ?_
      have hv : a.L 1 1 5 = if σ.t.k = 37 then σ.t.v else 0 := by rw [if_pos ((i_eq (b := 37) h2 rfl (by omega) (by omega)).mp (Classical.not_not.mp z22))]; exact h.1.2.2.2.2.2.2.1 ((i_eq (b := 37) h2 rfl (by omega) (by omega)).mp (Classical.not_not.mp z22))
      refine b_40_56 _ _ _ (by first | (exact hc_o (by first | assumption | (exact ⟨by decide, rfl⟩))) | assumption | (exact (hc_far (by omega)).trans (by assumption))) (by omega) ?_
      rw [h2]
      refine ct_addm hn h11 h8 ?_
      refine b_40_59 _ _ _ (by first | (exact hc_o (by first | assumption | (exact ⟨by decide, rfl⟩))) | assumption | (exact (hc_far (by omega)).trans (by assumption))) (by omega) (by first | rfl | assumption) (by first | (exact hc_o (by first | assumption | (exact ⟨by decide, rfl⟩))) | assumption | (exact (hc_far (by omega)).trans (by assumption))) (by omega) ?_
      refine cr_adv (d := d) hG (ct_st h h8) (fun a' h1 h3 h4 h5 => ?_)
      refine b_40_67 _ _ _ ?_
      exact ok h8 a' _ h1 (ct_go.trans h3) hv (ct_B.go h3 (Nat.lt_succ_self _))
/-- a name is there or not -/
theorem ms_fd_at {A B : Nat} {tb : Nat → Nat × Nat} {i : Nat} : ∀ (t j : Nat), j ≤ i → i < j + t → ((tb i).2 = B - A ∧ mr_sm g (tb i).1 A (tb i).2) → (∀ e, j ≤ e → e < i → ¬ ((tb e).2 = B - A ∧ mr_sm g (tb e).1 A (tb e).2)) → ms_fd g A B tb t j = i := by
  intro t
  induction t with
  | zero => intro j h1 h2; omega
  | succ t ih =>
    intro j h1 h2 hp hno
    unfold ms_fd
    by_cases e : j = i
    · subst e
      rw [if_pos hp]
    · rw [if_neg (hno j (Nat.le_refl _) (by omega))]
      exact ih (j + 1) (by omega) (by omega) hp (fun e h3 h4 => hno e (by omega) h4)
theorem ms_fd_no {A B : Nat} {tb : Nat → Nat × Nat} : ∀ (t j : Nat), (∀ e, j ≤ e → e < j + t → ¬ ((tb e).2 = B - A ∧ mr_sm g (tb e).1 A (tb e).2)) → ms_fd g A B tb t j = j + t := by
  intro t
  induction t with
  | zero => intro j _; rfl
  | succ t ih =>
    intro j hno
    unfold ms_fd
    rw [if_neg (hno j (Nat.le_refl _) (by omega)), ih (j + 1) (fun e h1 h2 => hno e (by omega) (by omega))]
    omega
theorem cn_T.tk {p M c : Nat} {S W : Nat → Nat} {o : Nat → Int32} {t : ms_T} {v : Int64} (h : cn_T a p M L c S W o) : cn_T (mh_tk a t v) p M L c S W o := h
/-- find, with what is asked for -/
theorem cn_fd {p M : Nat} {P : Nat × (Nat → Nat × Nat)} (hn : 575 ≤ n) (h : cst a g L σ) (hT : cn_T a p M L P.1 (fun i => (P.2 i).1) (fun i => (P.2 i).2) (fun _ => -1)) (K1 : ms_ni g σ P < P.1 → Q (.inl (some (.int (Int32.ofNat (ms_ni g σ P))))) (n, sl, hc a f0)) (K0 : ms_ni g σ P = P.1 → Q (.inl (some (.int (-1)))) (n, sl, hc a f0)) : mi_W (d + 1) 44 0 (mi_en 5 [.ref p, .int (a.I 1 1 3), .int (a.I 1 1 4), .int (-1)]) [] (n, sl, hc a f0) Q := by
  have hle := h.1.le
  rw [h.1.2.2.2.2.1, h.1.2.2.2.2.2.1]
  refine cn_find hn hT h.1.2.1 h.1.2.2.1 (by omega) (fun i hi hp hno => ?_) (fun hno => ?_)
  · have e : ms_ni g σ P = i := ms_fd_at P.1 0 (Nat.zero_le _) (by omega) ⟨hp.2.1, by rw [hp.2.1]; exact hp.2.2⟩ (fun e _ h2 h3 => hno e h2 ⟨rfl, h3.1, by rw [← h3.1]; exact h3.2⟩)
    rw [e] at K1
    exact K1 hi
  · have e : ms_ni g σ P = P.1 := (ms_fd_no P.1 0 (fun e _ h2 h3 => hno e (by omega) ⟨rfl, h3.1, by rw [← h3.1]; exact h3.2⟩)).trans (Nat.zero_add _)
    exact K0 e
theorem cn_T.add {p M c : Nat} {S W : Nat → Nat} {o : Nat → Int32} {x m : Nat} {ow : Int32} (h : cn_T a p M L c S W o) (hcm : c < M) (hxm : x + m ≤ L) : cn_T (cn_add a p c (Int32.ofNat x) (Int32.ofNat m) ow) p M L (c + 1) (va_up S c x) (va_up W c m) (va_up o c ow) := by
  obtain ⟨h1, h2, h3, h4, h5, h6, h7, h8, h9⟩ := h
  refine ⟨h1, h2, h3, h4, h5, ?_, hcm, h8, fun i hi => ?_⟩
  · show mh_u a.I 4 p 4 (a.I 4 p 4 + 1) 4 p 4 = _
    rw [mh_u_at, h6, of_succ]
  · have e1 : (cn_add a p c (Int32.ofNat x) (Int32.ofNat m) ow).AI 4 p 1 = upd (a.AI 4 p 1) c (Int32.ofNat x) := by simp [cn_add, mh_A.sAI, mh_A.sI, mh_A.AI, mh_u]
    have e2 : (cn_add a p c (Int32.ofNat x) (Int32.ofNat m) ow).AI 4 p 2 = upd (a.AI 4 p 2) c (Int32.ofNat m) := by simp [cn_add, mh_A.sAI, mh_A.sI, mh_A.AI, mh_u]
    have e3 : (cn_add a p c (Int32.ofNat x) (Int32.ofNat m) ow).AI 4 p 3 = upd (a.AI 4 p 3) c ow := by simp [cn_add, mh_A.sAI, mh_A.sI, mh_A.AI, mh_u]
    rw [e1, e2, e3]
    by_cases e : i = c
    · subst e
      rw [upd_at, upd_at, upd_at, va_eq, va_eq, va_eq]
      exact ⟨rfl, rfl, rfl, hxm⟩
    · rw [upd_ne e, upd_ne e, upd_ne e, va_ne e, va_ne e, va_ne e]
      exact h9 i (by omega)
theorem cn_T.oth {p p' M c c' : Nat} {S W : Nat → Nat} {o : Nat → Int32} {x m ow : Int32} (h : cn_T a p M L c S W o) (hp : ¬ p = p') : cn_T (cn_add a p' c' x m ow) p M L c S W o := by
  obtain ⟨h1, h2, h3, h4, h5, h6, h7, h8, h9⟩ := h
  have e : ∀ k, (cn_add a p' c' x m ow).AI 4 p k = a.AI 4 p k := fun k => by simp [cn_add, mh_A.sAI, mh_A.sI, mh_A.AI, mh_u, hp]
  refine ⟨h1, h2, h3, h4, h5, (show mh_u a.I 4 p' 4 _ 4 p 4 = _ by rw [mh_u_p hp]; exact h6), h7, h8, fun i hi => ?_⟩
  rw [e, e, e]
  exact h9 i hi
theorem cn_go {p c : Nat} {x m ow : Int32} {σ' : ms_S} (h1 : σ'.n = σ.n) (h2 : σ'.q = σ.q) (h3 : σ'.tb = σ.tb) (h4 : σ'.bd = σ.bd) : cgo a σ (cn_add a p c x m ow) σ' := by
  refine ⟨⟨fun c' p k hc => ⟨mh_u_c (by omega), rfl, ?_, rfl⟩, rfl, rfl, rfl⟩, fun m' hm => ⟨fun k hk => rfl, rfl⟩, ⟨Nat.le_of_eq h1.symm, Nat.le_of_eq h2.symm, fun _ _ => by rw [h3], fun _ _ => by rw [h4]⟩, rfl⟩
  have h4 : ¬ c' = 4 := by omega
  exact (mh_u_c h4).trans ((mh_u_c h4).trans (mh_u_c h4))
end
