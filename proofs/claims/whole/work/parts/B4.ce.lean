/-! the first object: names; what is required -/
section
variable {d n sl : Nat} {a : mh_A} {f0 : Nat → mi_C} {Q : (Option Value ⊕ Nat) → mi_H → Prop} {g : Nat → Int32} {L k p M c m : Nat}
theorem hx_c {y pc ce : Nat} {ls : mi_L} {rest : List Value} (hf : mi_hf (mt_oc y) pc ce (mt_hd y) = some none) (hn : 505 ≤ n) (k : Q (.inr n) (n + 1, sl + 6, hc a (va_up f0 n (.inr (ce, []))))) : mi_Kc d y pc ls rest Q (.inr n) (n + 1, sl + 6, hc a (va_up f0 n (.inr (ce, [])))) := ⟨ce, [], (hc_far hn).trans va_eq, Nat.lt_succ_self n, Or.inr ⟨hf, k⟩⟩
theorem cn_same_l {x y : Nat} (hn : 575 ≤ n) (hp : mh_o p 4) (h8 : L ≤ 8192) (hg : ∀ k, k < L → a.AI 1 1 0 k = g k) (hx : x + m ≤ L) (hy : y + m ≤ L) (k1 : mr_sm g x y m → Q (.inl (some (.int 1))) (n, sl, hc a f0)) (k0 : ¬ mr_sm g x y m → Q (.inl (some (.int 0))) (n, sl, hc a f0)) : ∀ (t i : Nat), i + t = m → (∀ k, k < i → g (x + k) = g (y + k)) → mi_W d 45 3 [some (.ref p), some (.int (Int32.ofNat x)), some (.int (Int32.ofNat y)), some (.int (Int32.ofNat m)), some (.int (Int32.ofNat i))] [] (n, sl, hc a f0) Q := by
  have hp5 := hp.1
  intro t
  induction t with
  | zero =>
    intro i hi hd
    have ei : i = m := by omega
    subst ei
    refine b_45_3 _ _ _ ?_ ?_
    · intro z3
      refine b_45_62 _ _ _ ?_
      exact k1 hd
    · intro z3
      exact absurd ((i_le rfl rfl (by omega) (by omega)).mpr (Nat.le_refl _)) z3
  | succ t ih =>
    intro i hi hd
    have e1 : Int32.ofNat x + Int32.ofNat i = Int32.ofNat (x + i) := of_add' x i
    have e2 : Int32.ofNat y + Int32.ofNat i = Int32.ofNat (y + i) := of_add' y i
    have hx1 : mi_ix (Int32.ofNat x + Int32.ofNat i) 8200 (x + i) := by rw [e1]; exact ix_of (by omega) (by omega)
    have hx2 : mi_ix (Int32.ofNat y + Int32.ofNat i) 8200 (y + i) := by rw [e2]; exact ix_of (by omega) (by omega)
    refine b_45_3 _ _ _ ?_ ?_
    · intro z3
      exact absurd ((i_le rfl rfl (by omega) (by omega)).mp z3) (by omega)
    · intro z3
      refine b_45_9 _ _ _ _ _ _ (by first | (exact hc_o (by first | assumption | (exact ⟨by decide, rfl⟩))) | assumption | (exact (hc_far (by omega)).trans (by assumption))) (by omega) (by first | rfl | assumption) (by first | (exact hc_ai (by omega) (by first | assumption | (exact (ht9 (by assumption)).2.1) | (exact (ht9 (by assumption)).2.2.1) | (exact (ht9 (by assumption)).2.2.2) | rfl) (by decide)) | assumption) ⟨by omega, by decide⟩ ?_ ?_
      · intro z9
        exact absurd ((i_le (a := 8200) rfl e1 (by omega) (by omega)).mp z9) (by omega)
      · intro z9
        refine b_45_21 _ _ _ _ _ _ (by first | (exact hc_o (by first | assumption | (exact ⟨by decide, rfl⟩))) | assumption | (exact (hc_far (by omega)).trans (by assumption))) (by omega) (by first | rfl | assumption) (by first | (exact hc_ai (by omega) (by first | assumption | (exact (ht9 (by assumption)).2.1) | (exact (ht9 (by assumption)).2.2.1) | (exact (ht9 (by assumption)).2.2.2) | rfl) (by decide)) | assumption) ⟨by omega, by decide⟩ ?_ ?_
        · intro z21
          exact absurd ((i_le (a := 8200) rfl e2 (by omega) (by omega)).mp z21) (by omega)
        · intro z21
          refine b_45_33 _ _ _ _ _ _ _ _ _ (by first | (exact hc_o (by first | assumption | (exact ⟨by decide, rfl⟩))) | assumption | (exact (hc_far (by omega)).trans (by assumption))) (by omega) (by first | rfl | assumption) (by first | (exact hc_ai (by omega) (by first | assumption | (exact (ht9 (by assumption)).2.1) | (exact (ht9 (by assumption)).2.2.1) | (exact (ht9 (by assumption)).2.2.2) | rfl) (by decide)) | assumption | (exact (hc_far (by omega)).trans (by assumption))) (by omega) (by first | assumption | (exact ix_of (by omega) (by omega)) | (exact ⟨by decide, rfl, by decide⟩)) (by first | (exact hc_o (by first | assumption | (exact ⟨by decide, rfl⟩))) | assumption | (exact (hc_far (by omega)).trans (by assumption))) (by omega) (by first | rfl | assumption) (by first | (exact hc_ai (by omega) (by first | assumption | (exact (ht9 (by assumption)).2.1) | (exact (ht9 (by assumption)).2.2.1) | (exact (ht9 (by assumption)).2.2.2) | rfl) (by decide)) | assumption | (exact (hc_far (by omega)).trans (by assumption))) (by omega) (by first | assumption | (exact ix_of (by omega) (by omega)) | (exact ⟨by decide, rfl, by decide⟩)) ?_ ?_
          · intro z33
            refine b_45_56 _ _ _ ?_
            rw [of_succ]
            refine ih (i + 1) (by omega) (fun j hj => ?_)
            by_cases ej : j = i
            · subst ej
              rw [hg _ (by omega), hg _ (by omega)] at z33
              exact z33
            · exact hd j (by omega)
          · intro z33
            refine b_45_54 _ _ _ ?_
            refine k0 (fun h => z33 ?_)
            rw [hg _ (by omega), hg _ (by omega)]
            exact h i (by omega)
theorem cn_same {x y : Nat} (hn : 575 ≤ n) (hp : mh_o p 4) (h8 : L ≤ 8192) (hg : ∀ k, k < L → a.AI 1 1 0 k = g k) (hx : x + m ≤ L) (hy : y + m ≤ L) (k1 : mr_sm g x y m → Q (.inl (some (.int 1))) (n, sl, hc a f0)) (k0 : ¬ mr_sm g x y m → Q (.inl (some (.int 0))) (n, sl, hc a f0)) : mi_W d 45 0 (mi_en 5 [.ref p, .int (Int32.ofNat x), .int (Int32.ofNat y), .int (Int32.ofNat m)]) [] (n, sl, hc a f0) Q := by
  refine b_45_0 _ _ _ ?_
  exact cn_same_l hn hp h8 hg hx hy k1 k0 m 0 (by omega) (fun k hk => absurd hk (Nat.not_lt_zero _))
/-- the names of one kind: starts, lengths, owners -/
def cn_T (a : mh_A) (p M L c : Nat) (S W : Nat → Nat) (o : Nat → Int32) : Prop := mh_o p 4 ∧ p ≤ 28 ∧ mh_t (p + 1) = (0, M, 4, p, 1) ∧ mh_t (p + 2) = (0, M, 4, p, 2) ∧ mh_t (p + 3) = (0, M, 4, p, 3) ∧ a.I 4 p 4 = Int32.ofNat c ∧ c ≤ M ∧ M ≤ 8 ∧ ∀ i, i < c → a.AI 4 p 1 i = Int32.ofNat (S i) ∧ a.AI 4 p 2 i = Int32.ofNat (W i) ∧ a.AI 4 p 3 i = o i ∧ S i + W i ≤ L
theorem cn_find_l {S W : Nat → Nat} {o : Nat → Int32} {x : Nat} {ow : Int32} (hn : 575 ≤ n) (hT : cn_T a p M L c S W o) (h8 : L ≤ 8192) (hg : ∀ k, k < L → a.AI 1 1 0 k = g k) (hx : x + m ≤ L) (K1 : ∀ i, i < c → (o i = ow ∧ W i = m ∧ mr_sm g (S i) x m) → (∀ j, j < i → ¬ (o j = ow ∧ W j = m ∧ mr_sm g (S j) x m)) → Q (.inl (some (.int (Int32.ofNat i)))) (n, sl, hc a f0)) (K0 : (∀ j, j < c → ¬ (o j = ow ∧ W j = m ∧ mr_sm g (S j) x m)) → Q (.inl (some (.int (-1)))) (n, sl, hc a f0)) : ∀ (t i : Nat), i + t = c → (∀ j, j < i → ¬ (o j = ow ∧ W j = m ∧ mr_sm g (S j) x m)) → mi_W (d + 1) 44 3 [some (.ref p), some (.int (Int32.ofNat x)), some (.int (Int32.ofNat m)), some (.int ow), some (.int (Int32.ofNat i))] [] (n, sl, hc a f0) Q := by
  obtain ⟨hp, hp8, t1, t2, t3, hc4, hcM, hM8, hS⟩ := hT
  have hp5 := hp.1
  intro t
  induction t with
  | zero =>
    intro i hi hj
    refine b_44_3 _ _ _ (by first | (exact hc_o (by first | assumption | (exact ⟨by decide, rfl⟩))) | assumption | (exact (hc_far (by omega)).trans (by assumption))) (by omega) (by first | rfl | assumption) ?_ ?_
    · intro z3
      refine b_44_59 _ _ _ ?_
      exact K0 (fun j h => hj j (by omega))
    · intro z3
      exact absurd ((i_le hc4 rfl (by omega) (by omega)).mpr (by omega)) z3
  | succ t ih =>
    intro i hi hj
    obtain ⟨s1, s2, s3, s4⟩ := hS i (by omega)
    have hxi := ix_of (w := i) (m := M) (by omega) (by omega)
    have nx : ¬ (o i = ow ∧ W i = m ∧ mr_sm g (S i) x m) → mi_W (d + 1) 44 53 [some (.ref p), some (.int (Int32.ofNat x)), some (.int (Int32.ofNat m)), some (.int ow), some (.int (Int32.ofNat i))] [] (n, sl, hc a f0) Q := by
      intro h
      refine b_44_53 _ _ _ ?_
      rw [of_succ]
      refine ih (i + 1) (by omega) (fun j hj' => ?_)
      by_cases e : j = i
      · rw [e]
        exact h
      · exact hj j (by omega)
    refine b_44_3 _ _ _ (by first | (exact hc_o (by first | assumption | (exact ⟨by decide, rfl⟩))) | assumption | (exact (hc_far (by omega)).trans (by assumption))) (by omega) (by first | rfl | assumption) ?_ ?_
    · intro z3
      exact absurd ((i_le hc4 rfl (by omega) (by omega)).mp z3) (by omega)
    · intro z3
      refine b_44_12 _ _ _ _ _ _ (by first | (exact hc_o (by first | assumption | (exact ⟨by decide, rfl⟩))) | assumption | (exact (hc_far (by omega)).trans (by assumption))) (by omega) (by first | rfl | assumption) (by first | (exact hc_ai (by omega) (by first | assumption | (exact (ht9 (by assumption)).2.1) | (exact (ht9 (by assumption)).2.2.1) | (exact (ht9 (by assumption)).2.2.2) | rfl) (by decide)) | assumption | (exact (hc_far (by omega)).trans (by assumption))) (Or.inl (by omega)) (by first | assumption | (exact ix_of (by omega) (by omega)) | (exact ⟨by decide, rfl, by decide⟩)) ?_ ?_
      · intro z12
        rw [s3] at z12
        exact nx (by first | exact fun h => z12 h.1 | exact fun h => z23 (congrArg Int32.ofNat h.2.1) | exact fun h => hm h.2.2)
      · intro z12
        rw [s3] at z12
        have z12 := Classical.not_not.mp z12
        refine b_44_23 _ _ _ _ _ _ (by first | (exact hc_o (by first | assumption | (exact ⟨by decide, rfl⟩))) | assumption | (exact (hc_far (by omega)).trans (by assumption))) (by omega) (by first | rfl | assumption) (by first | (exact hc_ai (by omega) (by first | assumption | (exact (ht9 (by assumption)).2.1) | (exact (ht9 (by assumption)).2.2.1) | (exact (ht9 (by assumption)).2.2.2) | rfl) (by decide)) | assumption | (exact (hc_far (by omega)).trans (by assumption))) (Or.inl (by omega)) (by first | assumption | (exact ix_of (by omega) (by omega)) | (exact ⟨by decide, rfl, by decide⟩)) ?_ ?_
        · intro z23
          rw [s2] at z23
          exact nx (by first | exact fun h => z12 h.1 | exact fun h => z23 (congrArg Int32.ofNat h.2.1) | exact fun h => hm h.2.2)
        · intro z23
          rw [s2] at z23
          have z23 := (i_eq rfl rfl (by omega) (by omega)).mp (Classical.not_not.mp z23)
          refine b_44_34 _ _ _ _ _ _ (by first | (exact hc_o (by first | assumption | (exact ⟨by decide, rfl⟩))) | assumption | (exact (hc_far (by omega)).trans (by assumption))) (by omega) (by first | rfl | assumption) (by first | (exact hc_ai (by omega) (by first | assumption | (exact (ht9 (by assumption)).2.1) | (exact (ht9 (by assumption)).2.2.1) | (exact (ht9 (by assumption)).2.2.2) | rfl) (by decide)) | assumption | (exact (hc_far (by omega)).trans (by assumption))) (Or.inl (by omega)) (by first | assumption | (exact ix_of (by omega) (by omega)) | (exact ⟨by decide, rfl, by decide⟩)) (by first | (exact hc_o (by first | assumption | (exact ⟨by decide, rfl⟩))) | assumption | (exact (hc_far (by omega)).trans (by assumption))) (by omega) ?_
          rw [s1]
          refine cn_same hn hp h8 hg (by omega) hx (fun hm => ?_) (fun hm => ?_)
          · refine b_44_47 _ _ _ ?_ ?_
            · intro z47
              first | (exact absurd z47 (by decide)) | (exact absurd (by decide) z47) | (exact absurd rfl z47) | (exact absurd z47 (of_nn (by omega))) | (exact absurd (of_np (by omega)) z47) | omega
            · intro z47
              refine b_44_50 _ _ _ ?_
              exact K1 i (by omega) ⟨z12, z23, hm⟩ hj
          · refine b_44_47 _ _ _ ?_ ?_
            · intro z47
              exact nx (by first | exact fun h => z12 h.1 | exact fun h => z23 (congrArg Int32.ofNat h.2.1) | exact fun h => hm h.2.2)
            · intro z47
              first | (exact absurd z47 (by decide)) | (exact absurd (by decide) z47) | (exact absurd rfl z47) | (exact absurd z47 (of_nn (by omega))) | (exact absurd (of_np (by omega)) z47) | omega
theorem cn_find {S W : Nat → Nat} {o : Nat → Int32} {x : Nat} {ow : Int32} (hn : 575 ≤ n) (hT : cn_T a p M L c S W o) (h8 : L ≤ 8192) (hg : ∀ k, k < L → a.AI 1 1 0 k = g k) (hx : x + m ≤ L) (K1 : ∀ i, i < c → (o i = ow ∧ W i = m ∧ mr_sm g (S i) x m) → (∀ j, j < i → ¬ (o j = ow ∧ W j = m ∧ mr_sm g (S j) x m)) → Q (.inl (some (.int (Int32.ofNat i)))) (n, sl, hc a f0)) (K0 : (∀ j, j < c → ¬ (o j = ow ∧ W j = m ∧ mr_sm g (S j) x m)) → Q (.inl (some (.int (-1)))) (n, sl, hc a f0)) : mi_W (d + 1) 44 0 (mi_en 5 [.ref p, .int (Int32.ofNat x), .int (Int32.ofNat m), .int ow]) [] (n, sl, hc a f0) Q := by
  refine b_44_0 _ _ _ ?_
  exact cn_find_l hn hT h8 hg hx K1 K0 c 0 (by omega) (fun k hk => absurd hk (Nat.not_lt_zero _))
theorem cn_room {S W : Nat → Nat} {o : Nat → Int32} (hn : 575 ≤ n) (hT : cn_T a p M L c S W o) (k1 : c < M → Q (.inl (some (.int 1))) (n, sl, hc a f0)) (k0 : c = M → Q (.inl (some (.int 0))) (n, sl, hc a f0)) : mi_W d 46 0 (mi_en 1 [.ref p]) [] (n, sl, hc a f0) Q := by
  obtain ⟨hp, hp8, t1, t2, t3, hc4, hcM, hM8, hS⟩ := hT
  have hp5 := hp.1
  refine b_46_0 _ _ _ (by first | (exact hc_o (by first | assumption | (exact ⟨by decide, rfl⟩))) | assumption | (exact (hc_far (by omega)).trans (by assumption))) (by omega) (by first | rfl | assumption) ?_ ?_
  · intro z0
    exact absurd z0 (by rw [hc4]; exact of_nn (by omega))
  · intro z0
    refine b_46_7 _ _ _ _ _ _ (by first | (exact hc_o (by first | assumption | (exact ⟨by decide, rfl⟩))) | assumption | (exact (hc_far (by omega)).trans (by assumption))) (by omega) (by first | rfl | assumption) (by first | (exact hc_o (by first | assumption | (exact ⟨by decide, rfl⟩))) | assumption | (exact (hc_far (by omega)).trans (by assumption))) (by omega) (by first | rfl | assumption) (by first | (exact hc_ai (by omega) (by first | assumption | (exact (ht9 (by assumption)).2.1) | (exact (ht9 (by assumption)).2.2.1) | (exact (ht9 (by assumption)).2.2.2) | rfl) (by decide)) | assumption) ⟨by omega, by decide⟩ ?_ ?_
    · intro z7
      refine b_46_23 _ _ _ ?_
      refine b_46_24 _ _ _ (by first | assumption | (exact mL_get (by decide)) | (rw [mL_len]; decide) | (simp only [mL_set]; exact mL_get (by decide)) | (simp only [mL_set, mL_len]; decide) | (exact va_eq) | (exact (va_ne (by omega)).trans (by assumption)) | (exact (va_ne (by omega)).trans va_eq) | (exact (va_ne (by omega)).trans ((va_ne (by omega)).trans (by assumption))) | (exact (va_ne (by omega)).trans ((va_ne (by omega)).trans ((va_ne (by omega)).trans (by assumption)))) | rfl | (exact Or.inl rfl) | (exact Or.inr rfl) | omega | (exact Nat.le_of_ble_eq_true rfl) | decide | (exact ⟨by decide, rfl, by decide⟩)) ?_
      exact k0 (Nat.le_antisymm hcM ((i_le rfl hc4 (by omega) (by omega)).mp z7))
    · intro z7
      refine b_46_19 _ _ _ ?_
      refine b_46_24 _ _ _ (by first | assumption | (exact mL_get (by decide)) | (rw [mL_len]; decide) | (simp only [mL_set]; exact mL_get (by decide)) | (simp only [mL_set, mL_len]; decide) | (exact va_eq) | (exact (va_ne (by omega)).trans (by assumption)) | (exact (va_ne (by omega)).trans va_eq) | (exact (va_ne (by omega)).trans ((va_ne (by omega)).trans (by assumption))) | (exact (va_ne (by omega)).trans ((va_ne (by omega)).trans ((va_ne (by omega)).trans (by assumption)))) | rfl | (exact Or.inl rfl) | (exact Or.inr rfl) | omega | (exact Nat.le_of_ble_eq_true rfl) | decide | (exact ⟨by decide, rfl, by decide⟩)) ?_
      exact k1 (Nat.lt_of_not_le (fun h => z7 ((i_le rfl hc4 (by omega) (by omega)).mpr h)))
def cn_add (a : mh_A) (p c : Nat) (x m ow : Int32) : mh_A := (((a.sAI 4 p 1 (upd (a.AI 4 p 1) c x)).sAI 4 p 2 (upd (a.AI 4 p 2) c m)).sAI 4 p 3 (upd (a.AI 4 p 3) c ow)).sI 4 p 4 (a.I 4 p 4 + 1)
theorem cn_addm {S W : Nat → Nat} {o : Nat → Int32} {x m ow : Int32} (hn : 575 ≤ n) (hT : cn_T a p M L c S W o) (hcm : c < M) (K : Q (.inl (some (.int (Int32.ofNat c)))) (n, sl, hc (cn_add a p c x m ow) f0)) : mi_W (d + 1) 47 0 (mi_en 4 [.ref p, .int x, .int m, .int ow]) [] (n, sl, hc a f0) Q := by
  have hT' := hT
  obtain ⟨hp, hp8, t1, t2, t3, hc4, hcM, hM8, hS⟩ := hT
  have hp5 := hp.1
  have hxc : mi_ix (a.I 4 p 4) M c := by rw [hc4]; exact ix_of (by omega) (by omega)
  refine b_47_0 _ _ _ (by first | (exact hc_o (by first | assumption | (exact ⟨by decide, rfl⟩))) | assumption | (exact (hc_far (by omega)).trans (by assumption))) (by omega) ?_
  refine cn_room hn hT' (fun h => ?_) (fun h => ?_)
  · refine b_47_4 _ _ _ ?_ ?_
    · intro z4
      refine b_47_9 _ _ _ _ _ _ _ _ _ _ _ _ (by first | (exact hc_o (by first | assumption | (exact ⟨by decide, rfl⟩))) | assumption | (exact (hc_far (by omega)).trans (by assumption))) (by omega) (by first | rfl | assumption) (by first | (exact hc_o (by first | assumption | (exact ⟨by decide, rfl⟩))) | assumption | (exact (hc_far (by omega)).trans (by assumption))) (by omega) (by first | rfl | assumption) (by first | (exact hc_ai (by omega) (by first | assumption | (exact (ht9 (by assumption)).2.1) | (exact (ht9 (by assumption)).2.2.1) | (exact (ht9 (by assumption)).2.2.2) | rfl) (by decide)) | assumption | (exact (hc_far (by omega)).trans (by assumption))) (by omega) (by first | assumption | (exact ix_of (by omega) (by omega)) | (exact ⟨by decide, rfl, by decide⟩)) (by first | (exact (congrFun (hw_AI (by omega) (by first | assumption | (exact (ht9 (by assumption)).2.1) | (exact (ht9 (by assumption)).2.2.1) | (exact (ht9 (by assumption)).2.2.2) | rfl) (by decide)) _).trans (hc_o (by first | assumption | (exact ⟨by decide, rfl⟩)))) | assumption | (exact (hc_far (by omega)).trans (by assumption))) (by omega) (by first | rfl | assumption) (by first | (exact (congrFun (hw_AI (by omega) (by first | assumption | (exact (ht9 (by assumption)).2.1) | (exact (ht9 (by assumption)).2.2.1) | (exact (ht9 (by assumption)).2.2.2) | rfl) (by decide)) _).trans (hc_o (by first | assumption | (exact ⟨by decide, rfl⟩)))) | assumption | (exact (hc_far (by omega)).trans (by assumption))) (by omega) (by first | rfl | assumption) (by first | (exact (congrFun (hw_AI (by omega) (by first | assumption | (exact (ht9 (by assumption)).2.1) | (exact (ht9 (by assumption)).2.2.1) | (exact (ht9 (by assumption)).2.2.2) | rfl) (by decide)) _).trans (hc_ai (by omega) (by first | assumption | (exact (ht9 (by assumption)).2.1) | (exact (ht9 (by assumption)).2.2.1) | (exact (ht9 (by assumption)).2.2.2) | rfl) (by decide))) | assumption | (exact (hc_far (by omega)).trans (by assumption))) (by omega) (by first | assumption | (exact ix_of (by omega) (by omega)) | (exact ⟨by decide, rfl, by decide⟩)) (by first | (exact (congrFun (hw_2 (hw_AI (by omega) (by first | assumption | (exact (ht9 (by assumption)).2.1) | (exact (ht9 (by assumption)).2.2.1) | (exact (ht9 (by assumption)).2.2.2) | rfl) (by decide)) (hw_AI (by omega) (by first | assumption | (exact (ht9 (by assumption)).2.1) | (exact (ht9 (by assumption)).2.2.1) | (exact (ht9 (by assumption)).2.2.2) | rfl) (by decide))) _).trans (hc_o (by first | assumption | (exact ⟨by decide, rfl⟩)))) | assumption | (exact (hc_far (by omega)).trans (by assumption))) (by omega) (by first | rfl | assumption) (by first | (exact (congrFun (hw_2 (hw_AI (by omega) (by first | assumption | (exact (ht9 (by assumption)).2.1) | (exact (ht9 (by assumption)).2.2.1) | (exact (ht9 (by assumption)).2.2.2) | rfl) (by decide)) (hw_AI (by omega) (by first | assumption | (exact (ht9 (by assumption)).2.1) | (exact (ht9 (by assumption)).2.2.1) | (exact (ht9 (by assumption)).2.2.2) | rfl) (by decide))) _).trans (hc_o (by first | assumption | (exact ⟨by decide, rfl⟩)))) | assumption | (exact (hc_far (by omega)).trans (by assumption))) (by omega) (by first | rfl | assumption) (by first | (exact (congrFun (hw_2 (hw_AI (by omega) (by first | assumption | (exact (ht9 (by assumption)).2.1) | (exact (ht9 (by assumption)).2.2.1) | (exact (ht9 (by assumption)).2.2.2) | rfl) (by decide)) (hw_AI (by omega) (by first | assumption | (exact (ht9 (by assumption)).2.1) | (exact (ht9 (by assumption)).2.2.1) | (exact (ht9 (by assumption)).2.2.2) | rfl) (by decide))) _).trans (hc_ai (by omega) (by first | assumption | (exact (ht9 (by assumption)).2.1) | (exact (ht9 (by assumption)).2.2.1) | (exact (ht9 (by assumption)).2.2.2) | rfl) (by decide))) | assumption | (exact (hc_far (by omega)).trans (by assumption))) (by omega) (by first | assumption | (exact ix_of (by omega) (by omega)) | (exact ⟨by decide, rfl, by decide⟩)) (by first | (exact (congrFun (hw_2 (hw_2 (hw_AI (by omega) (by first | assumption | (exact (ht9 (by assumption)).2.1) | (exact (ht9 (by assumption)).2.2.1) | (exact (ht9 (by assumption)).2.2.2) | rfl) (by decide)) (hw_AI (by omega) (by first | assumption | (exact (ht9 (by assumption)).2.1) | (exact (ht9 (by assumption)).2.2.1) | (exact (ht9 (by assumption)).2.2.2) | rfl) (by decide))) (hw_AI (by omega) (by first | assumption | (exact (ht9 (by assumption)).2.1) | (exact (ht9 (by assumption)).2.2.1) | (exact (ht9 (by assumption)).2.2.2) | rfl) (by decide))) _).trans (hc_o (by first | assumption | (exact ⟨by decide, rfl⟩)))) | assumption | (exact (hc_far (by omega)).trans (by assumption))) (by omega) (by first | rfl | assumption) (by first | (exact (congrFun (hw_2 (hw_2 (hw_AI (by omega) (by first | assumption | (exact (ht9 (by assumption)).2.1) | (exact (ht9 (by assumption)).2.2.1) | (exact (ht9 (by assumption)).2.2.2) | rfl) (by decide)) (hw_AI (by omega) (by first | assumption | (exact (ht9 (by assumption)).2.1) | (exact (ht9 (by assumption)).2.2.1) | (exact (ht9 (by assumption)).2.2.2) | rfl) (by decide))) (hw_AI (by omega) (by first | assumption | (exact (ht9 (by assumption)).2.1) | (exact (ht9 (by assumption)).2.2.1) | (exact (ht9 (by assumption)).2.2.2) | rfl) (by decide))) _).trans (hc_o (by first | assumption | (exact ⟨by decide, rfl⟩)))) | assumption | (exact (hc_far (by omega)).trans (by assumption))) (by omega) (Nat.le_of_ble_eq_true rfl) (by first | (exact (congrFun (hw_2 (hw_2 (hw_2 (hw_AI (by omega) (by first | assumption | (exact (ht9 (by assumption)).2.1) | (exact (ht9 (by assumption)).2.2.1) | (exact (ht9 (by assumption)).2.2.2) | rfl) (by decide)) (hw_AI (by omega) (by first | assumption | (exact (ht9 (by assumption)).2.1) | (exact (ht9 (by assumption)).2.2.1) | (exact (ht9 (by assumption)).2.2.2) | rfl) (by decide))) (hw_AI (by omega) (by first | assumption | (exact (ht9 (by assumption)).2.1) | (exact (ht9 (by assumption)).2.2.1) | (exact (ht9 (by assumption)).2.2.2) | rfl) (by decide))) (hw_I (by first | assumption | (exact ⟨by decide, rfl⟩)) (by decide))) _).trans (hc_o (by first | assumption | (exact ⟨by decide, rfl⟩)))) | assumption | (exact (hc_far (by omega)).trans (by assumption))) (by omega) (by first | rfl | assumption) ?_
      refine hw_Q (hw_2 (hw_2 (hw_2 (hw_AI (by omega) (by first | assumption | (exact (ht9 (by assumption)).2.1) | (exact (ht9 (by assumption)).2.2.1) | (exact (ht9 (by assumption)).2.2.2) | rfl) (by decide)) (hw_AI (by omega) (by first | assumption | (exact (ht9 (by assumption)).2.1) | (exact (ht9 (by assumption)).2.2.1) | (exact (ht9 (by assumption)).2.2.2) | rfl) (by decide))) (hw_AI (by omega) (by first | assumption | (exact (ht9 (by assumption)).2.1) | (exact (ht9 (by assumption)).2.2.1) | (exact (ht9 (by assumption)).2.2.2) | rfl) (by decide))) (hw_I (by first | assumption | (exact ⟨by decide, rfl⟩)) (by decide))) ?_
      have e : (cn_add a p c x m ow).I 4 p 4 - 1 = Int32.ofNat c := by
        show mh_u a.I 4 p 4 (a.I 4 p 4 + 1) 4 p 4 - 1 = _
        rw [mh_u_at, hc4, of_succ]
        exact of_sub' (a := 1) (b := c + 1) (by omega)
      have K' : Q (.inl (some (.int ((cn_add a p c x m ow).I 4 p 4 - 1)))) (n, sl, hc (cn_add a p c x m ow) f0) := by
        rw [e]
        exact K
      exact K'
    · intro z4
      first | (exact absurd z4 (by decide)) | (exact absurd (by decide) z4) | (exact absurd rfl z4) | (exact absurd z4 (of_nn (by omega))) | (exact absurd (of_np (by omega)) z4) | omega
  · exact absurd h (by omega)
theorem cr_at {w r : Int32} (hn : 575 ≤ n) (hN : n < 601000 ∧ sl ≤ 7293000) (k1 : ¬ r = 0 → Q (.inl none) (n, sl, hc a f0)) (k0 : r = 0 → Q (.inr n) (n + 1, sl + 6, hc (a.sI 3 15 6 w) (va_up f0 n (.inr (15, []))))) : mi_W d 21 0 (mi_en 3 [.ref 15, .int w, .int r]) [] (n, sl, hc a f0) Q := by
  refine b_21_0 _ _ _ ?_ ?_
  · intro z0
    refine b_21_19 _ _ _ ?_
    exact k1 z0
  · intro z0
    refine b_21_4 _ _ _ (by first | (exact hc_o (by first | assumption | (exact ⟨by decide, rfl⟩))) | assumption | (exact (hc_far (by omega)).trans (by assumption))) (by omega) (Nat.le_of_ble_eq_true rfl) (mi_tq_ok (ce := 15) (by decide +kernel) (by omega) (by omega)) ?_
    refine hw_Q (hw_2 (hw_I (by first | assumption | (exact ⟨by decide, rfl⟩)) (by decide)) (hc_out (by omega))) ?_
    exact k0 (Classical.not_not.mp z0)
theorem cr_re1 (hn : 575 ≤ n) (hN : n < 601000 ∧ sl ≤ 7293000) (K : Q (.inl none) (n, sl, hc a f0)) : mi_W (d + 1) 38 0 (mi_en 2 [.ref 15, .int 1]) [] (n, sl, hc a f0) Q := by
  refine b_38_0 _ _ _ (by first | (exact hc_o (by first | assumption | (exact ⟨by decide, rfl⟩))) | assumption | (exact (hc_far (by omega)).trans (by assumption))) (by omega) (by first | rfl | assumption) (by first | (exact hc_o (by first | assumption | (exact ⟨by decide, rfl⟩))) | assumption | (exact (hc_far (by omega)).trans (by assumption))) (by omega) (by first | rfl | assumption) (by first | (exact hc_o (by first | assumption | (exact ⟨by decide, rfl⟩))) | assumption | (exact (hc_far (by omega)).trans (by assumption))) (by omega) ?_
  refine cr_at hn hN (fun _ => ?_) (fun h => ?_)
  · refine b_38_12 _ _ _ ?_
    exact K
  · exact absurd h (by decide)
theorem cr_re0 (hn : 575 ≤ n) (hN : n < 601000 ∧ sl ≤ 7293000) (K : Q (.inr n) (n + 1, sl + 6, hc (a.sI 3 15 6 (a.I 1 1 3)) (va_up f0 n (.inr (15, []))))) : mi_W (d + 1) 38 0 (mi_en 2 [.ref 15, .int 0]) [] (n, sl, hc a f0) Q := by
  refine b_38_0 _ _ _ (by first | (exact hc_o (by first | assumption | (exact ⟨by decide, rfl⟩))) | assumption | (exact (hc_far (by omega)).trans (by assumption))) (by omega) (by first | rfl | assumption) (by first | (exact hc_o (by first | assumption | (exact ⟨by decide, rfl⟩))) | assumption | (exact (hc_far (by omega)).trans (by assumption))) (by omega) (by first | rfl | assumption) (by first | (exact hc_o (by first | assumption | (exact ⟨by decide, rfl⟩))) | assumption | (exact (hc_far (by omega)).trans (by assumption))) (by omega) ?_
  refine cr_at hn hN (fun h => ?_) (fun h => ?_)
  · exact absurd rfl h
  · refine hx_c (by decide +kernel) (by omega) ?_
    exact K
end
