/-! the first object: small methods of a transaction -/
theorem ht8 {p : Nat} (h : p = 41 ∨ p = 67) : mh_o (p + 1) 8 ∧ p + 7 < 505 ∧ mh_t (p + 1 + 1) = (0, 148, 8, p + 1, 0) ∧ mh_t (p + 1 + 2) = (0, 148, 8, p + 1, 1) ∧ mh_t (p + 1 + 3) = (0, 148, 8, p + 1, 2) ∧ mh_t (p + 1 + 4) = (0, 148, 8, p + 1, 3) ∧ mh_t (p + 1 + 5) = (0, 148, 8, p + 1, 4) ∧ mh_t (p + 1 + 6) = (3, 148, 8, p + 1, 5) := by
  rcases h with rfl | rfl <;> exact ⟨⟨by decide, rfl⟩, by decide, rfl, rfl, rfl, rfl, rfl, rfl⟩
section
variable {d n sl N : Nat} {a a0 a1 a2 : mh_A} {f0 : Nat → mi_C} {Q : (Option Value ⊕ Nat) → mi_H → Prop} {p q i j c k r m : Nat} {tb : Nat → ms_N} {lo hi v w : Int64} {Z : mv_Z}
theorem upL_at {g : Nat → Int64} {x : Int64} : vp_updL g i x i = x := by simp [vp_updL]
theorem upL_ne {g : Nat → Int64} {x : Int64} (h : ¬ j = i) : vp_updL g i x j = g j := by simp [vp_updL, h]
theorem AI_at {g : Nat → Int32} : (a.sAI c r k g).AI c r k = g := mh_u_at
theorem I_at {x : Int32} : (a.sI c r k x).I c r k = x := mh_u_at
theorem cM.wn {x : Nat} (h : cM a p q N tb lo hi Z) (hw : Z.ws.1 < 148) : cM (((a.sAI 8 (p + 1) 0 (upd (a.AI 8 (p + 1) 0) Z.ws.1 (Int32.ofNat x))).sAI 8 (p + 1) 1 (upd (a.AI 8 (p + 1) 1) Z.ws.1 (Int32.ofNat m))).sI 8 (p + 1) 6 (a.I 8 (p + 1) 6 + 1)) p q N tb lo hi (Z.wn x m) := by
  obtain ⟨h1, h2, h3, hs, ⟨⟨e1, e2, e3⟩, e4⟩, hl⟩ := h
  unfold mv_Z.wn
  rw [if_pos hw]
  refine ⟨h1, h2, h3, hs, ⟨⟨?_, hw, fun i hi => ?_⟩, e4⟩, hl⟩
  · rw [I_at, e1, of_succ]
    rfl
  · show (a.sAI 8 (p + 1) 0 (upd (a.AI 8 (p + 1) 0) Z.ws.1 (Int32.ofNat x))).AI 8 (p + 1) 0 i = Int32.ofNat (va_up Z.ws.2 Z.ws.1 (x, m) i).1 ∧ (a.sAI 8 (p + 1) 1 (upd (a.AI 8 (p + 1) 1) Z.ws.1 (Int32.ofNat m))).AI 8 (p + 1) 1 i = Int32.ofNat (va_up Z.ws.2 Z.ws.1 (x, m) i).2
    have hi' : i < Z.ws.1 + 1 := hi
    rw [AI_at, AI_at]
    by_cases e : i = Z.ws.1
    · rw [e, va_eq, upd_at, upd_at]
      exact ⟨rfl, rfl⟩
    · rw [va_ne e, upd_ne e, upd_ne e]
      exact e3 i (by omega)
theorem cM.py {x y z : Nat} (h : cM a p q N tb lo hi Z) (hw : Z.ps.1 < 148) : cM (((((a.sAI 8 (p + 1) 2 (upd (a.AI 8 (p + 1) 2) Z.ps.1 (Int32.ofNat x))).sAI 8 (p + 1) 3 (upd (a.AI 8 (p + 1) 3) Z.ps.1 (Int32.ofNat y))).sAI 8 (p + 1) 4 (upd (a.AI 8 (p + 1) 4) Z.ps.1 (Int32.ofNat z))).sAL 8 (p + 1) 5 (vp_updL (a.AL 8 (p + 1) 5) Z.ps.1 v)).sI 8 (p + 1) 7 (a.I 8 (p + 1) 7 + 1)) p q N tb lo hi (Z.py x y z v) := by
  obtain ⟨h1, h2, h3, hs, ⟨e4, ⟨e1, e2, e3⟩⟩, hl⟩ := h
  unfold mv_Z.py
  rw [if_pos hw]
  refine ⟨h1, h2, h3, hs, ⟨e4, ⟨?_, hw, fun i hi => ?_⟩⟩, hl⟩
  · rw [I_at, e1, of_succ]
    rfl
  · show (a.sAI 8 (p + 1) 2 (upd (a.AI 8 (p + 1) 2) Z.ps.1 (Int32.ofNat x))).AI 8 (p + 1) 2 i = Int32.ofNat (va_up Z.ps.2 Z.ps.1 (x, y, z, v) i).1 ∧ (a.sAI 8 (p + 1) 3 (upd (a.AI 8 (p + 1) 3) Z.ps.1 (Int32.ofNat y))).AI 8 (p + 1) 3 i = Int32.ofNat (va_up Z.ps.2 Z.ps.1 (x, y, z, v) i).2.1 ∧ (a.sAI 8 (p + 1) 4 (upd (a.AI 8 (p + 1) 4) Z.ps.1 (Int32.ofNat z))).AI 8 (p + 1) 4 i = Int32.ofNat (va_up Z.ps.2 Z.ps.1 (x, y, z, v) i).2.2.1 ∧ (a.sAL 8 (p + 1) 5 (vp_updL (a.AL 8 (p + 1) 5) Z.ps.1 v)).AL 8 (p + 1) 5 i = (va_up Z.ps.2 Z.ps.1 (x, y, z, v) i).2.2.2
    have hi' : i < Z.ps.1 + 1 := hi
    rw [AI_at, AI_at, AI_at, AL_at]
    by_cases e : i = Z.ps.1
    · rw [e, va_eq, upd_at, upd_at, upd_at, upL_at]
      exact ⟨rfl, rfl, rfl, rfl⟩
    · rw [va_ne e, upd_ne e, upd_ne e, upd_ne e, upL_ne e]
      exact e3 i (by omega)
theorem ce_warn {x : Nat} (hn : 575 ≤ n) (h : cM a p q N tb lo hi Z) (K : ∀ a', cMf p q a a' → a'.I 7 p 6 = a.I 7 p 6 → a'.I 10 (p + 12) 4 = a.I 10 (p + 12) 4 → cM a' p q N tb lo hi (Z.wn x m) → Q (.inl none) (n, sl, hc a' f0)) : mi_W d 98 0 (mi_en 3 [.ref (p + 1), .int (Int32.ofNat x), .int (Int32.ofNat m)]) [] (n, sl, hc a f0) Q := by
  obtain ⟨ho, hp5, t0, t1, t2, t3, t4, t5⟩ := ht8 h.1.2.2.2
  have e1 := h.2.2.2.2.1.1.1
  have e2 := h.2.2.2.2.1.1.2.1
  have hno : ¬ Z.ws.1 < 148 → Q (.inl none) (n, sl, hc a f0) := fun hw => K a cMf.re rfl rfl (by unfold mv_Z.wn; rw [if_neg hw]; exact h)
  have hyes : Z.ws.1 < 148 → Q (.inl none) (n, sl, hc (((a.sAI 8 (p + 1) 0 (upd (a.AI 8 (p + 1) 0) Z.ws.1 (Int32.ofNat x))).sAI 8 (p + 1) 1 (upd (a.AI 8 (p + 1) 1) Z.ws.1 (Int32.ofNat m))).sI 8 (p + 1) 6 (a.I 8 (p + 1) 6 + 1)) f0) := fun hw => K _ (((cMf.re.sAI ⟨rfl, rfl⟩).sAI ⟨rfl, rfl⟩).sI (Or.inr (Or.inl ⟨rfl, rfl⟩))) rfl rfl (h.wn hw)
  by_cases hw : Z.ws.1 < 148
  · have hix : mi_ix (a.I 8 (p + 1) 6) 148 Z.ws.1 := by rw [e1]; exact ix_of (by omega) (by omega)
    refine b_98_0 _ _ _ (by first | (exact hc_o (by first | assumption | (exact ⟨by decide, rfl⟩))) | assumption | (exact (hc_far (by omega)).trans (by assumption))) (by omega) (by first | rfl | assumption) ?_ ?_
    · intro z0
      exact absurd z0 (by rw [e1]; exact of_nn (by omega))
    · intro z0
      refine b_98_7 _ _ _ (by first | (exact hc_o (by first | assumption | (exact ⟨by decide, rfl⟩))) | assumption | (exact (hc_far (by omega)).trans (by assumption))) (by omega) (by first | rfl | assumption) ?_ ?_
      · intro z7
        exact absurd ((i_le (a := 148) rfl e1 (by omega) (by omega)).mp z7) (by omega)
      · intro z7
        refine b_98_17 _ _ _ _ _ _ _ _ _ (by first | (exact hc_o (by first | assumption | (exact ⟨by decide, rfl⟩))) | assumption | (exact (hc_far (by omega)).trans (by assumption))) (by omega) (by first | rfl | assumption) (by first | (exact hc_o (by first | assumption | (exact ⟨by decide, rfl⟩))) | assumption | (exact (hc_far (by omega)).trans (by assumption))) (by omega) (by first | rfl | assumption) (by first | (exact hc_ai (by omega) (by first | assumption | (exact (ht9 (by assumption)).2.1) | (exact (ht9 (by assumption)).2.2.1) | (exact (ht9 (by assumption)).2.2.2) | rfl) (by decide)) | assumption | (exact (hc_far (by omega)).trans (by assumption))) (by omega) (by first | assumption | (exact ix_of (by omega) (by omega)) | (exact ⟨by decide, rfl, by decide⟩)) (by first | (exact (congrFun (hw_AI (by omega) (by first | assumption | (exact (ht9 (by assumption)).2.1) | (exact (ht9 (by assumption)).2.2.1) | (exact (ht9 (by assumption)).2.2.2) | rfl) (by decide)) _).trans (hc_o (by first | assumption | (exact ⟨by decide, rfl⟩)))) | assumption | (exact (hc_far (by omega)).trans (by assumption))) (by omega) (by first | rfl | assumption) (by first | (exact (congrFun (hw_AI (by omega) (by first | assumption | (exact (ht9 (by assumption)).2.1) | (exact (ht9 (by assumption)).2.2.1) | (exact (ht9 (by assumption)).2.2.2) | rfl) (by decide)) _).trans (hc_o (by first | assumption | (exact ⟨by decide, rfl⟩)))) | assumption | (exact (hc_far (by omega)).trans (by assumption))) (by omega) (by first | rfl | assumption) (by first | (exact (congrFun (hw_AI (by omega) (by first | assumption | (exact (ht9 (by assumption)).2.1) | (exact (ht9 (by assumption)).2.2.1) | (exact (ht9 (by assumption)).2.2.2) | rfl) (by decide)) _).trans (hc_ai (by omega) (by first | assumption | (exact (ht9 (by assumption)).2.1) | (exact (ht9 (by assumption)).2.2.1) | (exact (ht9 (by assumption)).2.2.2) | rfl) (by decide))) | assumption | (exact (hc_far (by omega)).trans (by assumption))) (by omega) (by first | assumption | (exact ix_of (by omega) (by omega)) | (exact ⟨by decide, rfl, by decide⟩)) (by first | (exact (congrFun (hw_2 (hw_AI (by omega) (by first | assumption | (exact (ht9 (by assumption)).2.1) | (exact (ht9 (by assumption)).2.2.1) | (exact (ht9 (by assumption)).2.2.2) | rfl) (by decide)) (hw_AI (by omega) (by first | assumption | (exact (ht9 (by assumption)).2.1) | (exact (ht9 (by assumption)).2.2.1) | (exact (ht9 (by assumption)).2.2.2) | rfl) (by decide))) _).trans (hc_o (by first | assumption | (exact ⟨by decide, rfl⟩)))) | assumption | (exact (hc_far (by omega)).trans (by assumption))) (by omega) (by first | rfl | assumption) (by first | (exact (congrFun (hw_2 (hw_AI (by omega) (by first | assumption | (exact (ht9 (by assumption)).2.1) | (exact (ht9 (by assumption)).2.2.1) | (exact (ht9 (by assumption)).2.2.2) | rfl) (by decide)) (hw_AI (by omega) (by first | assumption | (exact (ht9 (by assumption)).2.1) | (exact (ht9 (by assumption)).2.2.1) | (exact (ht9 (by assumption)).2.2.2) | rfl) (by decide))) _).trans (hc_o (by first | assumption | (exact ⟨by decide, rfl⟩)))) | assumption | (exact (hc_far (by omega)).trans (by assumption))) (by omega) (Nat.le_of_ble_eq_true rfl) ?_
        refine hw_W (hw_2 (hw_2 (hw_AI (by omega) (by first | assumption | (exact (ht9 (by assumption)).2.1) | (exact (ht9 (by assumption)).2.2.1) | (exact (ht9 (by assumption)).2.2.2) | rfl) (by decide)) (hw_AI (by omega) (by first | assumption | (exact (ht9 (by assumption)).2.1) | (exact (ht9 (by assumption)).2.2.1) | (exact (ht9 (by assumption)).2.2.2) | rfl) (by decide))) (hw_I (by first | assumption | (exact ⟨by decide, rfl⟩)) (by decide))) ?_
        refine b_98_47 _ _ _ ?_
        exact hyes hw
  · skip
    refine b_98_0 _ _ _ (by first | (exact hc_o (by first | assumption | (exact ⟨by decide, rfl⟩))) | assumption | (exact (hc_far (by omega)).trans (by assumption))) (by omega) (by first | rfl | assumption) ?_ ?_
    · intro z0
      exact absurd z0 (by rw [e1]; exact of_nn (by omega))
    · intro z0
      refine b_98_7 _ _ _ (by first | (exact hc_o (by first | assumption | (exact ⟨by decide, rfl⟩))) | assumption | (exact (hc_far (by omega)).trans (by assumption))) (by omega) (by first | rfl | assumption) ?_ ?_
      · intro z7
        refine b_98_47 _ _ _ ?_
        exact hno hw
      · intro z7
        exact absurd ((i_le (a := 148) rfl e1 (by omega) (by omega)).mpr (by omega)) z7
theorem ce_pay {x y z : Nat} (hn : 575 ≤ n) (h : cM a p q N tb lo hi Z) (K : ∀ a', cMf p q a a' → a'.I 7 p 6 = a.I 7 p 6 → a'.I 10 (p + 12) 4 = a.I 10 (p + 12) 4 → cM a' p q N tb lo hi (Z.py x y z v) → Q (.inl none) (n, sl, hc a' f0)) : mi_W d 85 0 (mi_en 6 [.ref (p + 1), .int (Int32.ofNat x), .int (Int32.ofNat y), .int (Int32.ofNat z), .long v]) [] (n, sl, hc a f0) Q := by
  obtain ⟨ho, hp5, t0, t1, t2, t3, t4, t5⟩ := ht8 h.1.2.2.2
  have e1 := h.2.2.2.2.1.2.1
  have e2 := h.2.2.2.2.1.2.2.1
  have hno : ¬ Z.ps.1 < 148 → Q (.inl none) (n, sl, hc a f0) := fun hw => K a cMf.re rfl rfl (by unfold mv_Z.py; rw [if_neg hw]; exact h)
  have hyes : Z.ps.1 < 148 → Q (.inl none) (n, sl, hc (((((a.sAI 8 (p + 1) 2 (upd (a.AI 8 (p + 1) 2) Z.ps.1 (Int32.ofNat x))).sAI 8 (p + 1) 3 (upd (a.AI 8 (p + 1) 3) Z.ps.1 (Int32.ofNat y))).sAI 8 (p + 1) 4 (upd (a.AI 8 (p + 1) 4) Z.ps.1 (Int32.ofNat z))).sAL 8 (p + 1) 5 (vp_updL (a.AL 8 (p + 1) 5) Z.ps.1 v)).sI 8 (p + 1) 7 (a.I 8 (p + 1) 7 + 1)) f0) := fun hw => K _ (((((cMf.re.sAI ⟨rfl, rfl⟩).sAI ⟨rfl, rfl⟩).sAI ⟨rfl, rfl⟩).sAL (Or.inr (Or.inl ⟨rfl, rfl⟩))).sI (Or.inr (Or.inl ⟨rfl, rfl⟩))) rfl rfl (h.py hw)
  by_cases hw : Z.ps.1 < 148
  · have hix : mi_ix (a.I 8 (p + 1) 7) 148 Z.ps.1 := by rw [e1]; exact ix_of (by omega) (by omega)
    refine b_85_0 _ _ _ (by first | (exact hc_o (by first | assumption | (exact ⟨by decide, rfl⟩))) | assumption | (exact (hc_far (by omega)).trans (by assumption))) (by omega) (by first | rfl | assumption) ?_ ?_
    · intro z0
      exact absurd z0 (by rw [e1]; exact of_nn (by omega))
    · intro z0
      refine b_85_7 _ _ _ (by first | (exact hc_o (by first | assumption | (exact ⟨by decide, rfl⟩))) | assumption | (exact (hc_far (by omega)).trans (by assumption))) (by omega) (by first | rfl | assumption) ?_ ?_
      · intro z7
        exact absurd ((i_le (a := 148) rfl e1 (by omega) (by omega)).mp z7) (by omega)
      · intro z7
        refine b_85_17 _ _ _ _ _ _ _ _ _ _ _ _ _ _ _ (by first | (exact hc_o (by first | assumption | (exact ⟨by decide, rfl⟩))) | assumption | (exact (hc_far (by omega)).trans (by assumption))) (by omega) (by first | rfl | assumption) (by first | (exact hc_o (by first | assumption | (exact ⟨by decide, rfl⟩))) | assumption | (exact (hc_far (by omega)).trans (by assumption))) (by omega) (by first | rfl | assumption) (by first | (exact hc_ai (by omega) (by first | assumption | (exact (ht9 (by assumption)).2.1) | (exact (ht9 (by assumption)).2.2.1) | (exact (ht9 (by assumption)).2.2.2) | rfl) (by decide)) | assumption | (exact (hc_far (by omega)).trans (by assumption))) (by omega) (by first | assumption | (exact ix_of (by omega) (by omega)) | (exact ⟨by decide, rfl, by decide⟩)) (by first | (exact (congrFun (hw_AI (by omega) (by first | assumption | (exact (ht9 (by assumption)).2.1) | (exact (ht9 (by assumption)).2.2.1) | (exact (ht9 (by assumption)).2.2.2) | rfl) (by decide)) _).trans (hc_o (by first | assumption | (exact ⟨by decide, rfl⟩)))) | assumption | (exact (hc_far (by omega)).trans (by assumption))) (by omega) (by first | rfl | assumption) (by first | (exact (congrFun (hw_AI (by omega) (by first | assumption | (exact (ht9 (by assumption)).2.1) | (exact (ht9 (by assumption)).2.2.1) | (exact (ht9 (by assumption)).2.2.2) | rfl) (by decide)) _).trans (hc_o (by first | assumption | (exact ⟨by decide, rfl⟩)))) | assumption | (exact (hc_far (by omega)).trans (by assumption))) (by omega) (by first | rfl | assumption) (by first | (exact (congrFun (hw_AI (by omega) (by first | assumption | (exact (ht9 (by assumption)).2.1) | (exact (ht9 (by assumption)).2.2.1) | (exact (ht9 (by assumption)).2.2.2) | rfl) (by decide)) _).trans (hc_ai (by omega) (by first | assumption | (exact (ht9 (by assumption)).2.1) | (exact (ht9 (by assumption)).2.2.1) | (exact (ht9 (by assumption)).2.2.2) | rfl) (by decide))) | assumption | (exact (hc_far (by omega)).trans (by assumption))) (by omega) (by first | assumption | (exact ix_of (by omega) (by omega)) | (exact ⟨by decide, rfl, by decide⟩)) (by first | (exact (congrFun (hw_2 (hw_AI (by omega) (by first | assumption | (exact (ht9 (by assumption)).2.1) | (exact (ht9 (by assumption)).2.2.1) | (exact (ht9 (by assumption)).2.2.2) | rfl) (by decide)) (hw_AI (by omega) (by first | assumption | (exact (ht9 (by assumption)).2.1) | (exact (ht9 (by assumption)).2.2.1) | (exact (ht9 (by assumption)).2.2.2) | rfl) (by decide))) _).trans (hc_o (by first | assumption | (exact ⟨by decide, rfl⟩)))) | assumption | (exact (hc_far (by omega)).trans (by assumption))) (by omega) (by first | rfl | assumption) (by first | (exact (congrFun (hw_2 (hw_AI (by omega) (by first | assumption | (exact (ht9 (by assumption)).2.1) | (exact (ht9 (by assumption)).2.2.1) | (exact (ht9 (by assumption)).2.2.2) | rfl) (by decide)) (hw_AI (by omega) (by first | assumption | (exact (ht9 (by assumption)).2.1) | (exact (ht9 (by assumption)).2.2.1) | (exact (ht9 (by assumption)).2.2.2) | rfl) (by decide))) _).trans (hc_o (by first | assumption | (exact ⟨by decide, rfl⟩)))) | assumption | (exact (hc_far (by omega)).trans (by assumption))) (by omega) (by first | rfl | assumption) (by first | (exact (congrFun (hw_2 (hw_AI (by omega) (by first | assumption | (exact (ht9 (by assumption)).2.1) | (exact (ht9 (by assumption)).2.2.1) | (exact (ht9 (by assumption)).2.2.2) | rfl) (by decide)) (hw_AI (by omega) (by first | assumption | (exact (ht9 (by assumption)).2.1) | (exact (ht9 (by assumption)).2.2.1) | (exact (ht9 (by assumption)).2.2.2) | rfl) (by decide))) _).trans (hc_ai (by omega) (by first | assumption | (exact (ht9 (by assumption)).2.1) | (exact (ht9 (by assumption)).2.2.1) | (exact (ht9 (by assumption)).2.2.2) | rfl) (by decide))) | assumption | (exact (hc_far (by omega)).trans (by assumption))) (by omega) (by first | assumption | (exact ix_of (by omega) (by omega)) | (exact ⟨by decide, rfl, by decide⟩)) (by first | (exact (congrFun (hw_2 (hw_2 (hw_AI (by omega) (by first | assumption | (exact (ht9 (by assumption)).2.1) | (exact (ht9 (by assumption)).2.2.1) | (exact (ht9 (by assumption)).2.2.2) | rfl) (by decide)) (hw_AI (by omega) (by first | assumption | (exact (ht9 (by assumption)).2.1) | (exact (ht9 (by assumption)).2.2.1) | (exact (ht9 (by assumption)).2.2.2) | rfl) (by decide))) (hw_AI (by omega) (by first | assumption | (exact (ht9 (by assumption)).2.1) | (exact (ht9 (by assumption)).2.2.1) | (exact (ht9 (by assumption)).2.2.2) | rfl) (by decide))) _).trans (hc_o (by first | assumption | (exact ⟨by decide, rfl⟩)))) | assumption | (exact (hc_far (by omega)).trans (by assumption))) (by omega) (by first | rfl | assumption) (by first | (exact (congrFun (hw_2 (hw_2 (hw_AI (by omega) (by first | assumption | (exact (ht9 (by assumption)).2.1) | (exact (ht9 (by assumption)).2.2.1) | (exact (ht9 (by assumption)).2.2.2) | rfl) (by decide)) (hw_AI (by omega) (by first | assumption | (exact (ht9 (by assumption)).2.1) | (exact (ht9 (by assumption)).2.2.1) | (exact (ht9 (by assumption)).2.2.2) | rfl) (by decide))) (hw_AI (by omega) (by first | assumption | (exact (ht9 (by assumption)).2.1) | (exact (ht9 (by assumption)).2.2.1) | (exact (ht9 (by assumption)).2.2.2) | rfl) (by decide))) _).trans (hc_o (by first | assumption | (exact ⟨by decide, rfl⟩)))) | assumption | (exact (hc_far (by omega)).trans (by assumption))) (by omega) (by first | rfl | assumption) (by first | (exact (congrFun (hw_2 (hw_2 (hw_AI (by omega) (by first | assumption | (exact (ht9 (by assumption)).2.1) | (exact (ht9 (by assumption)).2.2.1) | (exact (ht9 (by assumption)).2.2.2) | rfl) (by decide)) (hw_AI (by omega) (by first | assumption | (exact (ht9 (by assumption)).2.1) | (exact (ht9 (by assumption)).2.2.1) | (exact (ht9 (by assumption)).2.2.2) | rfl) (by decide))) (hw_AI (by omega) (by first | assumption | (exact (ht9 (by assumption)).2.1) | (exact (ht9 (by assumption)).2.2.1) | (exact (ht9 (by assumption)).2.2.2) | rfl) (by decide))) _).trans (hc_al (by omega) (by first | assumption | (exact (ht9 (by assumption)).2.1) | (exact (ht9 (by assumption)).2.2.1) | (exact (ht9 (by assumption)).2.2.2) | rfl))) | assumption | (exact (hc_far (by omega)).trans (by assumption))) (by omega) (by first | assumption | (exact ix_of (by omega) (by omega)) | (exact ⟨by decide, rfl, by decide⟩)) (by first | (exact (congrFun (hw_2 (hw_2 (hw_2 (hw_AI (by omega) (by first | assumption | (exact (ht9 (by assumption)).2.1) | (exact (ht9 (by assumption)).2.2.1) | (exact (ht9 (by assumption)).2.2.2) | rfl) (by decide)) (hw_AI (by omega) (by first | assumption | (exact (ht9 (by assumption)).2.1) | (exact (ht9 (by assumption)).2.2.1) | (exact (ht9 (by assumption)).2.2.2) | rfl) (by decide))) (hw_AI (by omega) (by first | assumption | (exact (ht9 (by assumption)).2.1) | (exact (ht9 (by assumption)).2.2.1) | (exact (ht9 (by assumption)).2.2.2) | rfl) (by decide))) (hw_AL (by omega) (by first | assumption | (exact (ht9 (by assumption)).2.1) | (exact (ht9 (by assumption)).2.2.1) | (exact (ht9 (by assumption)).2.2.2) | rfl))) _).trans (hc_o (by first | assumption | (exact ⟨by decide, rfl⟩)))) | assumption | (exact (hc_far (by omega)).trans (by assumption))) (by omega) (by first | rfl | assumption) (by first | (exact (congrFun (hw_2 (hw_2 (hw_2 (hw_AI (by omega) (by first | assumption | (exact (ht9 (by assumption)).2.1) | (exact (ht9 (by assumption)).2.2.1) | (exact (ht9 (by assumption)).2.2.2) | rfl) (by decide)) (hw_AI (by omega) (by first | assumption | (exact (ht9 (by assumption)).2.1) | (exact (ht9 (by assumption)).2.2.1) | (exact (ht9 (by assumption)).2.2.2) | rfl) (by decide))) (hw_AI (by omega) (by first | assumption | (exact (ht9 (by assumption)).2.1) | (exact (ht9 (by assumption)).2.2.1) | (exact (ht9 (by assumption)).2.2.2) | rfl) (by decide))) (hw_AL (by omega) (by first | assumption | (exact (ht9 (by assumption)).2.1) | (exact (ht9 (by assumption)).2.2.1) | (exact (ht9 (by assumption)).2.2.2) | rfl))) _).trans (hc_o (by first | assumption | (exact ⟨by decide, rfl⟩)))) | assumption | (exact (hc_far (by omega)).trans (by assumption))) (by omega) (Nat.le_of_ble_eq_true rfl) ?_
        refine hw_W (hw_2 (hw_2 (hw_2 (hw_2 (hw_AI (by omega) (by first | assumption | (exact (ht9 (by assumption)).2.1) | (exact (ht9 (by assumption)).2.2.1) | (exact (ht9 (by assumption)).2.2.2) | rfl) (by decide)) (hw_AI (by omega) (by first | assumption | (exact (ht9 (by assumption)).2.1) | (exact (ht9 (by assumption)).2.2.1) | (exact (ht9 (by assumption)).2.2.2) | rfl) (by decide))) (hw_AI (by omega) (by first | assumption | (exact (ht9 (by assumption)).2.1) | (exact (ht9 (by assumption)).2.2.1) | (exact (ht9 (by assumption)).2.2.2) | rfl) (by decide))) (hw_AL (by omega) (by first | assumption | (exact (ht9 (by assumption)).2.1) | (exact (ht9 (by assumption)).2.2.1) | (exact (ht9 (by assumption)).2.2.2) | rfl))) (hw_I (by first | assumption | (exact ⟨by decide, rfl⟩)) (by decide))) ?_
        refine b_85_68 _ _ _ ?_
        exact hyes hw
  · skip
    refine b_85_0 _ _ _ (by first | (exact hc_o (by first | assumption | (exact ⟨by decide, rfl⟩))) | assumption | (exact (hc_far (by omega)).trans (by assumption))) (by omega) (by first | rfl | assumption) ?_ ?_
    · intro z0
      exact absurd z0 (by rw [e1]; exact of_nn (by omega))
    · intro z0
      refine b_85_7 _ _ _ (by first | (exact hc_o (by first | assumption | (exact ⟨by decide, rfl⟩))) | assumption | (exact (hc_far (by omega)).trans (by assumption))) (by omega) (by first | rfl | assumption) ?_ ?_
      · intro z7
        refine b_85_68 _ _ _ ?_
        exact hno hw
      · intro z7
        exact absurd ((i_le (a := 148) rfl e1 (by omega) (by omega)).mpr (by omega)) z7
theorem cs_ff (hn : 575 ≤ n) (hq : mh_o q 9) (g : Nat → Int64) (hg : ∀ j, j < 32 → a.AL 9 q 2 j = g j) : ∀ (t k : Nat), k + t = 32 → (K1 : mv_ff g t k < 32 → Q (.inl (some (.int (Int32.ofNat (mv_ff g t k))))) (n, sl, hc a f0)) → (K0 : mv_ff g t k = 32 → Q (.inl (some (.int (-1)))) (n, sl, hc a f0)) → mi_W d 84 2 [some (.ref q), some (.int (Int32.ofNat k))] [] (n, sl, hc a f0) Q := by
  have h9 := ht9 hq
  have hq5 := hq.1
  intro t
  induction t with
  | zero =>
    intro k hk K1 K0
    refine b_84_2 _ _ _ ?_ ?_
    · intro z2
      refine b_84_27 _ _ _ ?_
      exact K0 hk
    · intro z2
      exact absurd ((i_le (a := 32) rfl rfl (by omega) (by omega)).mpr (by omega)) z2
  | succ t ih =>
    intro k hk K1 K0
    have hix := ix_of (w := k) (m := 32) (by omega) (by omega)
    have hgk := hg k (by omega)
    unfold mv_ff at K1 K0
    refine b_84_2 _ _ _ ?_ ?_
    · intro z2
      exact absurd ((i_le (a := 32) rfl rfl (by omega) (by omega)).mp z2) (by omega)
    · intro z2
      refine b_84_8 _ _ _ _ _ _ (by first | (exact hc_o (by first | assumption | (exact ⟨by decide, rfl⟩))) | assumption | (exact (hc_far (by omega)).trans (by assumption))) (by omega) (by first | rfl | assumption) (by first | (exact hc_al (by omega) (by first | assumption | (exact (ht9 (by assumption)).2.1) | (exact (ht9 (by assumption)).2.2.1) | (exact (ht9 (by assumption)).2.2.2) | rfl)) | assumption | (exact (hc_far (by omega)).trans (by assumption))) (by omega) (by first | assumption | (exact ix_of (by omega) (by omega)) | (exact ⟨by decide, rfl, by decide⟩)) ?_ ?_
      · intro z8
        refine b_84_21 _ _ _ ?_
        have hz : g k = 0 := hgk.symm.trans (lg_e.mp z8)
        rw [if_pos hz] at K1 K0
        rw [of_succ]
        exact ih (k + 1) (by omega) K1 K0
      · intro z8
        refine b_84_19 _ _ _ ?_
        have hz : ¬ g k = 0 := fun e => z8 (lg_e.mpr (hgk.trans e))
        rw [if_neg hz] at K1
        exact K1 (by omega)
theorem cs_add {A D : Nat} (hn : 575 ≤ n) (hq : mh_o q 9) (hA : A < 8) (hD : D < 4) (K1 : mv_lm (a.AL 9 q 2 (A * 4 + D) + v) = true → Q (.inl (some (.int 1))) (n, sl, hc (a.sAL 9 q 2 (vp_updL (a.AL 9 q 2) (A * 4 + D) (a.AL 9 q 2 (A * 4 + D) + v))) f0)) (K0 : ¬ mv_lm (a.AL 9 q 2 (A * 4 + D) + v) = true → Q (.inl (some (.int 0))) (n, sl, hc (a.sAL 9 q 2 (vp_updL (a.AL 9 q 2) (A * 4 + D) (a.AL 9 q 2 (A * 4 + D) + v))) f0)) : mi_W d 100 0 (mi_en 6 [.ref q, .int (Int32.ofNat A), .int (Int32.ofNat D), .long v]) [] (n, sl, hc a f0) Q := by
  have hq5 := hq.1
  have h9 := ht9 hq
  have e : Int32.ofNat A * 4 + Int32.ofNat D = Int32.ofNat (A * 4 + D) := by
    rw [show (4 : Int32) = Int32.ofNat 4 from rfl, of_mul, of_add']
  have hix := ix_of (w := A * 4 + D) (m := 32) (by omega) (by omega)
  have hr : (a.sAL 9 q 2 (vp_updL (a.AL 9 q 2) (A * 4 + D) (a.AL 9 q 2 (A * 4 + D) + v))).AL 9 q 2 (A * 4 + D) = a.AL 9 q 2 (A * 4 + D) + v := by rw [AL_at, upL_at]
  refine b_100_0 _ _ _ ?_ ?_
  · intro z0
    exact absurd z0 (by rw [e]; exact of_nn (by omega))
  · intro z0
    rw [e]
    refine b_100_12 _ _ _ ?_ ?_
    · intro z12
      refine b_100_21 _ _ _ _ _ _ _ _ _ _ _ _ (by first | (exact hc_o (by first | assumption | (exact ⟨by decide, rfl⟩))) | assumption | (exact (hc_far (by omega)).trans (by assumption))) (by omega) (by first | rfl | assumption) (by first | (exact hc_al (by omega) (by first | assumption | (exact (ht9 (by assumption)).2.1) | (exact (ht9 (by assumption)).2.2.1) | (exact (ht9 (by assumption)).2.2.2) | rfl)) | assumption | (exact (hc_far (by omega)).trans (by assumption))) (by omega) (by first | assumption | (exact ix_of (by omega) (by omega)) | (exact ⟨by decide, rfl, by decide⟩)) (by first | (exact hc_al (by omega) (by first | assumption | (exact (ht9 (by assumption)).2.1) | (exact (ht9 (by assumption)).2.2.1) | (exact (ht9 (by assumption)).2.2.2) | rfl)) | assumption | (exact (hc_far (by omega)).trans (by assumption))) (by omega) (by first | assumption | (exact ix_of (by omega) (by omega)) | (exact ⟨by decide, rfl, by decide⟩)) (by first | (exact (congrFun (hw_AL (by omega) (by first | assumption | (exact (ht9 (by assumption)).2.1) | (exact (ht9 (by assumption)).2.2.1) | (exact (ht9 (by assumption)).2.2.2) | rfl)) _).trans (hc_o (by first | assumption | (exact ⟨by decide, rfl⟩)))) | assumption | (exact (hc_far (by omega)).trans (by assumption))) (by omega) (by first | rfl | assumption) (by first | (exact (congrFun (hw_AL (by omega) (by first | assumption | (exact (ht9 (by assumption)).2.1) | (exact (ht9 (by assumption)).2.2.1) | (exact (ht9 (by assumption)).2.2.2) | rfl)) _).trans (hc_al (by omega) (by first | assumption | (exact (ht9 (by assumption)).2.1) | (exact (ht9 (by assumption)).2.2.1) | (exact (ht9 (by assumption)).2.2.2) | rfl))) | assumption | (exact (hc_far (by omega)).trans (by assumption))) (by omega) (by first | assumption | (exact ix_of (by omega) (by omega)) | (exact ⟨by decide, rfl, by decide⟩)) ?_ ?_
      · intro z21
        refine hw_W (hw_AL (by omega) (by first | assumption | (exact (ht9 (by assumption)).2.1) | (exact (ht9 (by assumption)).2.2.1) | (exact (ht9 (by assumption)).2.2.2) | rfl)) ?_
        rw [hr] at z21
        refine b_100_62 _ _ _ ?_
        refine b_100_63 _ _ _ (by first | assumption | (exact mL_get (by decide)) | (rw [mL_len]; decide) | (simp only [mL_set]; exact mL_get (by decide)) | (simp only [mL_set, mL_len]; decide) | (exact va_eq) | (exact (va_ne (by omega)).trans (by assumption)) | (exact (va_ne (by omega)).trans va_eq) | (exact (va_ne (by omega)).trans ((va_ne (by omega)).trans (by assumption))) | (exact (va_ne (by omega)).trans ((va_ne (by omega)).trans ((va_ne (by omega)).trans (by assumption)))) | rfl | (exact Or.inl rfl) | (exact Or.inr rfl) | omega | (exact Nat.le_of_ble_eq_true rfl) | decide | (exact ⟨by decide, rfl, by decide⟩)) ?_
        refine K0 (fun h => ?_)
        have h := of_decide_eq_true (p := 0 ≤ a.AL 9 q 2 (A * 4 + D) + v ∧ a.AL 9 q 2 (A * 4 + D) + v ≤ 4611686018427387904) h
        first | exact absurd (lg_lt.mp z21) (Int64.not_lt.mpr h.1) | exact absurd (lg_gt.mp z44) (Int64.not_lt.mpr h.2)
      · intro z21
        refine hw_W (hw_AL (by omega) (by first | assumption | (exact (ht9 (by assumption)).2.1) | (exact (ht9 (by assumption)).2.2.1) | (exact (ht9 (by assumption)).2.2.2) | rfl)) ?_
        rw [hr] at z21
        refine b_100_44 _ _ _ _ _ _ (by first | (exact hc_o (by first | assumption | (exact ⟨by decide, rfl⟩))) | assumption | (exact (hc_far (by omega)).trans (by assumption))) (by omega) (by first | rfl | assumption) (by first | (exact hc_al (by omega) (by first | assumption | (exact (ht9 (by assumption)).2.1) | (exact (ht9 (by assumption)).2.2.1) | (exact (ht9 (by assumption)).2.2.2) | rfl)) | assumption | (exact (hc_far (by omega)).trans (by assumption))) (by omega) (by first | assumption | (exact ix_of (by omega) (by omega)) | (exact ⟨by decide, rfl, by decide⟩)) ?_ ?_
        · intro z44
          rw [hr] at z44
          refine b_100_62 _ _ _ ?_
          refine b_100_63 _ _ _ (by first | assumption | (exact mL_get (by decide)) | (rw [mL_len]; decide) | (simp only [mL_set]; exact mL_get (by decide)) | (simp only [mL_set, mL_len]; decide) | (exact va_eq) | (exact (va_ne (by omega)).trans (by assumption)) | (exact (va_ne (by omega)).trans va_eq) | (exact (va_ne (by omega)).trans ((va_ne (by omega)).trans (by assumption))) | (exact (va_ne (by omega)).trans ((va_ne (by omega)).trans ((va_ne (by omega)).trans (by assumption)))) | rfl | (exact Or.inl rfl) | (exact Or.inr rfl) | omega | (exact Nat.le_of_ble_eq_true rfl) | decide | (exact ⟨by decide, rfl, by decide⟩)) ?_
          refine K0 (fun h => ?_)
          have h := of_decide_eq_true (p := 0 ≤ a.AL 9 q 2 (A * 4 + D) + v ∧ a.AL 9 q 2 (A * 4 + D) + v ≤ 4611686018427387904) h
          first | exact absurd (lg_lt.mp z21) (Int64.not_lt.mpr h.1) | exact absurd (lg_gt.mp z44) (Int64.not_lt.mpr h.2)
        · intro z44
          rw [hr] at z44
          refine b_100_58 _ _ _ ?_
          refine b_100_63 _ _ _ (by first | assumption | (exact mL_get (by decide)) | (rw [mL_len]; decide) | (simp only [mL_set]; exact mL_get (by decide)) | (simp only [mL_set, mL_len]; decide) | (exact va_eq) | (exact (va_ne (by omega)).trans (by assumption)) | (exact (va_ne (by omega)).trans va_eq) | (exact (va_ne (by omega)).trans ((va_ne (by omega)).trans (by assumption))) | (exact (va_ne (by omega)).trans ((va_ne (by omega)).trans ((va_ne (by omega)).trans (by assumption)))) | rfl | (exact Or.inl rfl) | (exact Or.inr rfl) | omega | (exact Nat.le_of_ble_eq_true rfl) | decide | (exact ⟨by decide, rfl, by decide⟩)) ?_
          exact K1 (decide_eq_true ⟨Int64.not_lt.mp (fun h => z21 (lg_lt.mpr h)), Int64.not_lt.mp (fun h => z44 (lg_gt.mpr h))⟩)
    · intro z12
      exact absurd ((i_lt (b := 32) rfl rfl (by omega) (by omega)).mpr (by omega)) z12
theorem cs_su (hn : 575 ≤ n) (hq : mh_o q 9) (hc8 : c < 8) (K : Q (.inl none) (n, sl, hc ((a.sAL 9 q 4 (vp_updL (a.AL 9 q 4) c v)).sI 9 q 6 (a.I 9 q 6 ||| (1 <<< (Int32.ofNat c &&& 31)))) f0)) : mi_W d 104 0 (mi_en 4 [.ref q, .int (Int32.ofNat c), .long v]) [] (n, sl, hc a f0) Q := by
  have hq5 := hq.1
  have h9 := ht9 hq
  have hix := ix_of (w := c) (m := 8) (by omega) (by omega)
  refine b_104_0 _ _ _ ?_ ?_
  · intro z0
    exact absurd z0 (of_nn (by omega))
  · intro z0
    refine b_104_4 _ _ _ ?_ ?_
    · intro z4
      exact absurd ((i_le (a := 8) rfl rfl (by omega) (by omega)).mp z4) (by omega)
    · intro z4
      refine b_104_10 _ _ _ _ _ _ (by first | (exact hc_o (by first | assumption | (exact ⟨by decide, rfl⟩))) | assumption | (exact (hc_far (by omega)).trans (by assumption))) (by omega) (by first | rfl | assumption) (by first | (exact hc_al (by omega) (by first | assumption | (exact (ht9 (by assumption)).2.1) | (exact (ht9 (by assumption)).2.2.1) | (exact (ht9 (by assumption)).2.2.2) | rfl)) | assumption | (exact (hc_far (by omega)).trans (by assumption))) (by omega) (by first | assumption | (exact ix_of (by omega) (by omega)) | (exact ⟨by decide, rfl, by decide⟩)) (by first | (exact (congrFun (hw_AL (by omega) (by first | assumption | (exact (ht9 (by assumption)).2.1) | (exact (ht9 (by assumption)).2.2.1) | (exact (ht9 (by assumption)).2.2.2) | rfl)) _).trans (hc_o (by first | assumption | (exact ⟨by decide, rfl⟩)))) | assumption | (exact (hc_far (by omega)).trans (by assumption))) (by omega) (by first | rfl | assumption) (by first | (exact (congrFun (hw_AL (by omega) (by first | assumption | (exact (ht9 (by assumption)).2.1) | (exact (ht9 (by assumption)).2.2.1) | (exact (ht9 (by assumption)).2.2.2) | rfl)) _).trans (hc_o (by first | assumption | (exact ⟨by decide, rfl⟩)))) | assumption | (exact (hc_far (by omega)).trans (by assumption))) (by omega) (Nat.le_of_ble_eq_true rfl) ?_
      refine hw_W (hw_2 (hw_AL (by omega) (by first | assumption | (exact (ht9 (by assumption)).2.1) | (exact (ht9 (by assumption)).2.2.1) | (exact (ht9 (by assumption)).2.2.2) | rfl)) (hw_I (by first | assumption | (exact ⟨by decide, rfl⟩)) (by decide))) ?_
      refine b_104_29 _ _ _ ?_
      exact K
theorem cs_sc (hn : 575 ≤ n) (hq : mh_o q 9) (hc8 : c < 8) (K : Q (.inl none) (n, sl, hc ((a.sAL 9 q 3 (vp_updL (a.AL 9 q 3) c v)).sI 9 q 5 (a.I 9 q 5 ||| (1 <<< (Int32.ofNat c &&& 31)))) f0)) : mi_W d 109 0 (mi_en 4 [.ref q, .int (Int32.ofNat c), .long v]) [] (n, sl, hc a f0) Q := by
  have hq5 := hq.1
  have h9 := ht9 hq
  have hix := ix_of (w := c) (m := 8) (by omega) (by omega)
  refine b_109_0 _ _ _ ?_ ?_
  · intro z0
    exact absurd z0 (of_nn (by omega))
  · intro z0
    refine b_109_4 _ _ _ ?_ ?_
    · intro z4
      exact absurd ((i_le (a := 8) rfl rfl (by omega) (by omega)).mp z4) (by omega)
    · intro z4
      refine b_109_10 _ _ _ _ _ _ (by first | (exact hc_o (by first | assumption | (exact ⟨by decide, rfl⟩))) | assumption | (exact (hc_far (by omega)).trans (by assumption))) (by omega) (by first | rfl | assumption) (by first | (exact hc_al (by omega) (by first | assumption | (exact (ht9 (by assumption)).2.1) | (exact (ht9 (by assumption)).2.2.1) | (exact (ht9 (by assumption)).2.2.2) | rfl)) | assumption | (exact (hc_far (by omega)).trans (by assumption))) (by omega) (by first | assumption | (exact ix_of (by omega) (by omega)) | (exact ⟨by decide, rfl, by decide⟩)) (by first | (exact (congrFun (hw_AL (by omega) (by first | assumption | (exact (ht9 (by assumption)).2.1) | (exact (ht9 (by assumption)).2.2.1) | (exact (ht9 (by assumption)).2.2.2) | rfl)) _).trans (hc_o (by first | assumption | (exact ⟨by decide, rfl⟩)))) | assumption | (exact (hc_far (by omega)).trans (by assumption))) (by omega) (by first | rfl | assumption) (by first | (exact (congrFun (hw_AL (by omega) (by first | assumption | (exact (ht9 (by assumption)).2.1) | (exact (ht9 (by assumption)).2.2.1) | (exact (ht9 (by assumption)).2.2.2) | rfl)) _).trans (hc_o (by first | assumption | (exact ⟨by decide, rfl⟩)))) | assumption | (exact (hc_far (by omega)).trans (by assumption))) (by omega) (Nat.le_of_ble_eq_true rfl) ?_
      refine hw_W (hw_2 (hw_AL (by omega) (by first | assumption | (exact (ht9 (by assumption)).2.1) | (exact (ht9 (by assumption)).2.2.1) | (exact (ht9 (by assumption)).2.2.2) | rfl)) (hw_I (by first | assumption | (exact ⟨by decide, rfl⟩)) (by decide))) ?_
      refine b_109_29 _ _ _ ?_
      exact K
theorem cj_minl (K : Q (.inl (some (.long (mv_min v w)))) (n, sl, hc a f0)) : mi_W d 99 0 (mi_en 4 [.long v, .long w]) [] (n, sl, hc a f0) Q := by
  unfold mv_min at K
  refine b_99_0 _ _ _ ?_ ?_
  · intro z0
    rw [if_neg (Int64.not_le.mpr (lg_gt.mp z0))] at K
    refine b_99_10 _ _ _ ?_
    refine b_99_11 _ _ _ ?_
    exact K
  · intro z0
    rw [if_pos (Int64.not_lt.mp (fun h => z0 (lg_gt.mpr h)))] at K
    refine b_99_6 _ _ _ ?_
    refine b_99_11 _ _ _ ?_
    exact K
end
