/-! the first object: end -/
section
variable {d e n sl m : Nat} {a a0 a1 : mh_A} {σ σ0 σ1 : ms_S} {f0 : Nat → mi_C} {Q : (Option Value ⊕ Nat) → mi_H → Prop} {g : Nat → Int32} {L : Nat}
theorem mh_uu {α : Type} {X : Nat → Nat → Nat → α} {c p k : Nat} {v w : α} : mh_u (mh_u X c p k v) c p k w = mh_u X c p k w := by
  funext c' p' k'
  simp only [mh_u]
  split <;> (try split) <;> (try split) <;> rfl
theorem mh_us {α : Type} {X : Nat → Nat → Nat → α} {c p k : Nat} : mh_u X c p k (X c p k) = X := by
  funext c' p' k'
  simp only [mh_u]
  split
  · split
    · split
      · subst_vars
        rfl
      · rfl
    · rfl
  · rfl
theorem sAL2 {c p k : Nat} {g h : Nat → Int64} : (a.sAL c p k g).sAL c p k h = a.sAL c p k h := by
  unfold mh_A.sAL mh_A.AL
  dsimp only
  rw [mh_uu]
theorem sALs {c p k : Nat} : a.sAL c p k (a.AL c p k) = a := by
  unfold mh_A.sAL
  rw [mh_us]
  rfl
theorem AL_at {c p k : Nat} {g : Nat → Int64} : (a.sAL c p k g).AL c p k = g := mh_u_at
theorem cj_fill_l {q c p k len : Nat} {v : Int64} (hn : 575 ≤ n) (hq : q < 505) (ht : mh_t q = (3, len, c, p, k)) (hl : len ≤ 1000) (K : ∀ g', (∀ j, j < len → g' j = v) → Q (.inl none) (n, sl, hc (a.sAL c p k g') f0)) : ∀ (t i : Nat) (g : Nat → Int64), i + t = len → (∀ j, j < i → g j = v) → mi_W d 57 6 [some (.ref q), some (.long v), none, some (.int (Int32.ofNat i)), some (.int (Int32.ofNat len))] [] (n, sl, hc (a.sAL c p k g) f0) Q := by
  intro t
  induction t with
  | zero =>
    intro i g hi hg
    refine b_57_6 _ _ _ ?_ ?_
    · intro z6
      refine b_57_22 _ _ _ ?_
      exact K g (fun j hj => hg j (by omega))
    · intro z6
      exact absurd ((i_le rfl rfl (by omega) (by omega)).mpr (by omega)) z6
  | succ t ih =>
    intro i g hi hg
    refine b_57_6 _ _ _ ?_ ?_
    · intro z6
      exact absurd ((i_le rfl rfl (by omega) (by omega)).mp z6) (by omega)
    · intro z6
      refine b_57_12 _ _ _ _ _ _ (by first | (exact hc_al (by omega) (by first | assumption | (exact (ht9 (by assumption)).2.1) | (exact (ht9 (by assumption)).2.2.1) | (exact (ht9 (by assumption)).2.2.2) | rfl)) | assumption | (exact (hc_far (by omega)).trans (by assumption))) (by omega) (by first | assumption | (exact ix_of (by omega) (by omega)) | (exact ⟨by decide, rfl, by decide⟩)) ?_
      refine hw_W (hw_AL (by omega) (by first | assumption | (exact (ht9 (by assumption)).2.1) | (exact (ht9 (by assumption)).2.2.1) | (exact (ht9 (by assumption)).2.2.2) | rfl)) ?_
      rw [of_succ, sAL2, AL_at]
      refine ih (i + 1) _ (by omega) (fun j hj => ?_)
      by_cases ej : j = i
      · simp [vp_updL, ej]
      · rw [show vp_updL g i v j = g j by simp [vp_updL, ej]]
        exact hg j (by omega)
theorem cj_fill {q c p k len : Nat} {v : Int64} (hn : 575 ≤ n) (hq : q < 505) (ht : mh_t q = (3, len, c, p, k)) (hl : len ≤ 1000) (K : ∀ g', (∀ j, j < len → g' j = v) → Q (.inl none) (n, sl, hc (a.sAL c p k g') f0)) : mi_W d 57 0 (mi_en 5 [.ref q, .long v]) [] (n, sl, hc a f0) Q := by
  refine b_57_0 _ _ _ _ _ _ (by first | (exact hc_al (by omega) (by assumption)) | (exact hc_ai (by omega) (by first | assumption | (exact (ht9 (by assumption)).2.1) | (exact (ht9 (by assumption)).2.2.1) | (exact (ht9 (by assumption)).2.2.2) | rfl) (by decide)) | (exact hc_al (by omega) (by first | assumption | (exact (ht9 (by assumption)).2.1) | (exact (ht9 (by assumption)).2.2.1) | (exact (ht9 (by assumption)).2.2.2) | rfl)) | assumption) ⟨by omega, by decide⟩ ?_
  rw [← sALs (a := a) (c := c) (p := p) (k := k)]
  exact cj_fill_l hn hq ht hl K len 0 _ (by omega) (fun j hj => absurd hj (Nat.not_lt_zero _))
/-- a state as it begins -/
def cS0 (a : mh_A) (p : Nat) : Prop := a.I 9 p 0 = 0 ∧ a.L 9 p 1 = 0 ∧ (∀ j, j < 32 → a.AL 9 p 2 j = 0) ∧ (∀ j, j < 8 → a.AL 9 p 3 j = 0) ∧ (∀ j, j < 8 → a.AL 9 p 4 j = 0) ∧ a.I 9 p 5 = 0 ∧ a.I 9 p 6 = 0
/-- all but a state -/
def cFs (p : Nat) (a a' : mh_A) : Prop := a'.R = a.R ∧ ∀ c q k, ¬ (c = 9 ∧ q = p) → a'.I c q k = a.I c q k ∧ a'.L c q k = a.L c q k ∧ a'.AI c q k = a.AI c q k ∧ a'.AL c q k = a.AL c q k
theorem cs_beg (hn : 575 ≤ n) (K : ∀ a', cS0 a' 497 → cFs 497 a a' → Q (.inl none) (n, sl, hc a' f0)) : mi_W (d + 1) 56 0 (mi_en 1 [.ref 497]) [] (n, sl, hc a f0) Q := by
  refine b_56_0 _ _ _ (by first | (exact hc_o (by first | assumption | (exact ⟨by decide, rfl⟩))) | assumption | (exact (hc_far (by omega)).trans (by assumption))) (by omega) (Nat.le_of_ble_eq_true rfl) (by first | (exact (congrFun (hw_I (by first | assumption | (exact ⟨by decide, rfl⟩)) (by decide)) _).trans (hc_o (by first | assumption | (exact ⟨by decide, rfl⟩)))) | assumption | (exact (hc_far (by omega)).trans (by assumption))) (by omega) (Nat.le_of_ble_eq_true rfl) (by first | (exact (congrFun (hw_2 (hw_I (by first | assumption | (exact ⟨by decide, rfl⟩)) (by decide)) (hw_L (by first | assumption | (exact ⟨by decide, rfl⟩)) (by decide))) _).trans (hc_o (by first | assumption | (exact ⟨by decide, rfl⟩)))) | assumption | (exact (hc_far (by omega)).trans (by assumption))) (by omega) (by first | rfl | assumption) ?_
  refine hw_W (hw_2 (hw_I (by first | assumption | (exact ⟨by decide, rfl⟩)) (by decide)) (hw_L (by first | assumption | (exact ⟨by decide, rfl⟩)) (by decide))) ?_
  refine cj_fill (c := 9) (p := 497) (k := 2) (len := 32) hn (by decide) rfl (by decide) (fun g1 h1 => ?_)
  refine b_56_18 _ _ _ (by first | (exact hc_o (by first | assumption | (exact ⟨by decide, rfl⟩))) | assumption | (exact (hc_far (by omega)).trans (by assumption))) (by omega) (by first | rfl | assumption) ?_
  refine cj_fill (c := 9) (p := 497) (k := 3) (len := 8) hn (by decide) rfl (by decide) (fun g2 h2 => ?_)
  refine b_56_26 _ _ _ (by first | (exact hc_o (by first | assumption | (exact ⟨by decide, rfl⟩))) | assumption | (exact (hc_far (by omega)).trans (by assumption))) (by omega) (by first | rfl | assumption) ?_
  refine cj_fill (c := 9) (p := 497) (k := 4) (len := 8) hn (by decide) rfl (by decide) (fun g3 h3 => ?_)
  refine b_56_34 _ _ _ (by first | (exact hc_o (by first | assumption | (exact ⟨by decide, rfl⟩))) | assumption | (exact (hc_far (by omega)).trans (by assumption))) (by omega) (Nat.le_of_ble_eq_true rfl) (by first | (exact (congrFun (hw_I (by first | assumption | (exact ⟨by decide, rfl⟩)) (by decide)) _).trans (hc_o (by first | assumption | (exact ⟨by decide, rfl⟩)))) | assumption | (exact (hc_far (by omega)).trans (by assumption))) (by omega) (Nat.le_of_ble_eq_true rfl) ?_
  refine hw_Q (hw_2 (hw_I (by first | assumption | (exact ⟨by decide, rfl⟩)) (by decide)) (hw_I (by first | assumption | (exact ⟨by decide, rfl⟩)) (by decide))) ?_
  refine K _ ⟨rfl, rfl, fun j hj => h1 j hj, fun j hj => h2 j hj, fun j hj => h3 j hj, rfl, rfl⟩ ⟨rfl, fun c q k hcq => ⟨?_, ?_, rfl, ?_⟩⟩
  · simp only [mh_A.sI, mh_A.sL, mh_A.sAL, mh_A.I, mh_u]
    by_cases hc9 : c = 9
    · by_cases hq9 : q = 497
      · exact absurd ⟨hc9, hq9⟩ hcq
      · simp [hc9, hq9]
    · simp [hc9]
  · simp only [mh_A.sI, mh_A.sL, mh_A.sAL, mh_A.L, mh_u]
    by_cases hc9 : c = 9
    · by_cases hq9 : q = 497
      · exact absurd ⟨hc9, hq9⟩ hcq
      · simp [hc9, hq9]
    · simp [hc9]
  · simp only [mh_A.sI, mh_A.sL, mh_A.sAL, mh_A.AL, mh_u]
    by_cases hc9 : c = 9
    · by_cases hq9 : q = 497
      · exact absurd ⟨hc9, hq9⟩ hcq
      · simp [hc9, hq9]
    · simp [hc9]
def cClr (a : mh_A) : mh_A := ((((((a.sI 3 15 6 (-1)).sI 2 3 11 0).sI 2 3 12 0).sI 4 16 4 0).sI 4 20 4 0).sI 4 24 4 0).sI 4 28 4 0
theorem cClr_F : cF a (cClr a) := ⟨fun c p k hc => ⟨by unfold cClr mh_A.sI mh_A.I; dsimp only; rw [mh_u_c (by omega), mh_u_c (by omega), mh_u_c (by omega), mh_u_c (by omega), mh_u_c (by omega), mh_u_c (by omega), mh_u_c (by omega)], rfl, rfl, rfl⟩, rfl, rfl, rfl⟩
theorem cs_begin (hG : cG n sl f0) (hL : L ≤ 8192) (hoc : a.AI 1 1 0 = g) (hcl : a.I 2 3 11 = 0 ∧ a.I 2 3 12 = 0 ∧ a.I 4 16 4 = 0 ∧ a.I 4 20 4 = 0 ∧ a.I 4 24 4 = 0 ∧ a.I 4 28 4 = 0) (K : ∀ a', cst a' g L (ms_s0 g L) → cF a a' → a'.I 3 15 6 = a.I 3 15 6 → Q (.inl none) (n, sl, hc a' f0)) : mi_W (d + 7) 22 0 (mi_en 2 [.ref 1, .int (Int32.ofNat L)]) [] (n, sl, hc a f0) Q := by
  have hn := hG.1
  have hmin : ¬ (8192 : Int32) < Int32.ofNat L := fun h => absurd ((i_lt (a := 8192) rfl rfl (by omega) (by omega)).mp h) (by omega)
  refine b_22_0 _ _ _ ?_
  refine cj_min ?_
  rw [if_neg hmin]
  refine b_22_8 _ _ _ (by first | (exact hc_o (by first | assumption | (exact ⟨by decide, rfl⟩))) | assumption | (exact (hc_far (by omega)).trans (by assumption))) (by omega) (Nat.le_of_ble_eq_true rfl) (by first | (exact (congrFun (hw_I (by first | assumption | (exact ⟨by decide, rfl⟩)) (by decide)) _).trans (hc_o (by first | assumption | (exact ⟨by decide, rfl⟩)))) | assumption | (exact (hc_far (by omega)).trans (by assumption))) (by omega) (Nat.le_of_ble_eq_true rfl) (by first | (exact (congrFun (hw_2 (hw_I (by first | assumption | (exact ⟨by decide, rfl⟩)) (by decide)) (hw_I (by first | assumption | (exact ⟨by decide, rfl⟩)) (by decide))) _).trans (hc_o (by first | assumption | (exact ⟨by decide, rfl⟩)))) | assumption | (exact (hc_far (by omega)).trans (by assumption))) (by omega) (Nat.le_of_ble_eq_true rfl) (by first | (exact (congrFun (hw_2 (hw_2 (hw_I (by first | assumption | (exact ⟨by decide, rfl⟩)) (by decide)) (hw_I (by first | assumption | (exact ⟨by decide, rfl⟩)) (by decide))) (hw_I (by first | assumption | (exact ⟨by decide, rfl⟩)) (by decide))) _).trans (hc_o (by first | assumption | (exact ⟨by decide, rfl⟩)))) | assumption | (exact (hc_far (by omega)).trans (by assumption))) (by omega) ?_
  refine hw_W (hw_2 (hw_2 (hw_I (by first | assumption | (exact ⟨by decide, rfl⟩)) (by decide)) (hw_I (by first | assumption | (exact ⟨by decide, rfl⟩)) (by decide))) (hw_I (by first | assumption | (exact ⟨by decide, rfl⟩)) (by decide))) ?_
  refine cs_adv (g := g) (p := 0) hn hG.2.2 rfl hL (fun k _ => by rw [← hoc]; rfl) (Nat.zero_le _) rfl (fun v hv => ?_)
  refine b_22_25 _ _ _ ?_
  have hl := ms_nx_le (g := g) (L := L) (p := 0) (Nat.zero_le _)
  obtain ⟨k, hk, ek⟩ := ms_nx_tk (g := g) (L := L) (p := 0)
  have nt : ∀ p M, (p = 16 ∧ M = 8 ∨ p = 20 ∧ M = 4 ∨ p = 24 ∧ M = 8 ∨ p = 28 ∧ M = 8) → ∀ S W o, a.I 4 p 4 = 0 → cn_T (mh_tk (((a.sI 1 1 6 (Int32.ofNat L)).sI 1 1 3 0).sI 1 1 4 0) (ms_nx g L 0) v) p M L 0 S W o := by
    intro p M hp S W o h0
    rcases hp with ⟨rfl, rfl⟩ | ⟨rfl, rfl⟩ | ⟨rfl, rfl⟩ | ⟨rfl, rfl⟩ <;> exact ⟨⟨by decide, rfl⟩, by decide, rfl, rfl, rfl, h0, Nat.zero_le _, by decide, fun i hi => absurd hi (Nat.not_lt_zero _)⟩
  refine K _ ⟨⟨rfl, hL, fun k _ => by rw [← hoc]; rfl, rfl, rfl, rfl, hv, k, hk (Nat.zero_le _), ek⟩, ⟨hcl.1, Nat.zero_le _⟩, ⟨hcl.2.1, Nat.zero_le _, fun i hi => absurd hi (Nat.not_lt_zero _)⟩, nt 16 8 (by decide) _ _ _ hcl.2.2.1, nt 20 4 (by decide) _ _ _ hcl.2.2.2.1, nt 28 8 (by decide) _ _ _ hcl.2.2.2.2.2, nt 24 8 (by decide) _ _ _ hcl.2.2.2.2.1, fun i hi => absurd hi (Nat.not_lt_zero _)⟩ ⟨fun c p k hc => ⟨?_, ?_, rfl, rfl⟩, rfl, rfl, rfl⟩ rfl
  · show (if c = 1 then _ else _) = _
    rw [if_neg (by omega)]
    unfold mh_A.sI mh_A.I
    dsimp only
    rw [mh_u_c (by omega), mh_u_c (by omega), mh_u_c (by omega)]
  · show (if c = 1 then _ else _) = _
    rw [if_neg (by omega)]
    rfl
theorem cr_begin (hG : cG n sl f0) (hL : L ≤ 8192) (hoc : a.AI 1 1 0 = g) (K1 : ∀ i, i < L → ms_fb (g i) → (∀ j, j < i → ¬ ms_fb (g j)) → cEr n sl f0 Q a i) (K0 : (∀ j, j < L → ¬ ms_fb (g j)) → ∀ a', cst a' g L (ms_s0 g L) → cF a a' → a'.I 3 15 6 = -1 → Q (.inl none) (n, sl, hc a' f0)) : mi_W (d + 8) 18 0 (mi_en 3 [.ref 15, .int (Int32.ofNat L)]) [] (n, sl, hc a f0) Q := by
  have hn := hG.1
  subst hoc
  refine b_18_0 _ _ _ (by first | (exact hc_o (by first | assumption | (exact ⟨by decide, rfl⟩))) | assumption | (exact (hc_far (by omega)).trans (by assumption))) (by omega) (Nat.le_of_ble_eq_true rfl) (by first | (exact (congrFun (hw_I (by first | assumption | (exact ⟨by decide, rfl⟩)) (by decide)) _).trans (hc_o (by first | assumption | (exact ⟨by decide, rfl⟩)))) | assumption | (exact (hc_far (by omega)).trans (by assumption))) (by omega) (by first | rfl | assumption) (by first | (exact (congrFun (hw_I (by first | assumption | (exact ⟨by decide, rfl⟩)) (by decide)) _).trans (hc_o (by first | assumption | (exact ⟨by decide, rfl⟩)))) | assumption | (exact (hc_far (by omega)).trans (by assumption))) (by omega) ?_
  refine hw_W (hw_I (by first | assumption | (exact ⟨by decide, rfl⟩)) (by decide)) ?_
  refine b_19_0 _ _ _ (by first | (exact hc_o (by first | assumption | (exact ⟨by decide, rfl⟩))) | assumption | (exact (hc_far (by omega)).trans (by assumption))) (by omega) (Nat.le_of_ble_eq_true rfl) (by first | (exact (congrFun (hw_I (by first | assumption | (exact ⟨by decide, rfl⟩)) (by decide)) _).trans (hc_o (by first | assumption | (exact ⟨by decide, rfl⟩)))) | assumption | (exact (hc_far (by omega)).trans (by assumption))) (by omega) (Nat.le_of_ble_eq_true rfl) ?_
  refine hw_Q (hw_2 (hw_I (by first | assumption | (exact ⟨by decide, rfl⟩)) (by decide)) (hw_I (by first | assumption | (exact ⟨by decide, rfl⟩)) (by decide))) ?_
  refine b_18_12 _ _ _ (by first | (exact hc_o (by first | assumption | (exact ⟨by decide, rfl⟩))) | assumption | (exact (hc_far (by omega)).trans (by assumption))) (by omega) (by first | rfl | assumption) (by first | (exact hc_o (by first | assumption | (exact ⟨by decide, rfl⟩))) | assumption | (exact (hc_far (by omega)).trans (by assumption))) (by omega) (Nat.le_of_ble_eq_true rfl) (by first | (exact (congrFun (hw_I (by first | assumption | (exact ⟨by decide, rfl⟩)) (by decide)) _).trans (hc_o (by first | assumption | (exact ⟨by decide, rfl⟩)))) | assumption | (exact (hc_far (by omega)).trans (by assumption))) (by omega) (by first | rfl | assumption) (by first | (exact (congrFun (hw_I (by first | assumption | (exact ⟨by decide, rfl⟩)) (by decide)) _).trans (hc_o (by first | assumption | (exact ⟨by decide, rfl⟩)))) | assumption | (exact (hc_far (by omega)).trans (by assumption))) (by omega) (Nat.le_of_ble_eq_true rfl) (by first | (exact (congrFun (hw_2 (hw_I (by first | assumption | (exact ⟨by decide, rfl⟩)) (by decide)) (hw_I (by first | assumption | (exact ⟨by decide, rfl⟩)) (by decide))) _).trans (hc_o (by first | assumption | (exact ⟨by decide, rfl⟩)))) | assumption | (exact (hc_far (by omega)).trans (by assumption))) (by omega) (by first | rfl | assumption) (by first | (exact (congrFun (hw_2 (hw_I (by first | assumption | (exact ⟨by decide, rfl⟩)) (by decide)) (hw_I (by first | assumption | (exact ⟨by decide, rfl⟩)) (by decide))) _).trans (hc_o (by first | assumption | (exact ⟨by decide, rfl⟩)))) | assumption | (exact (hc_far (by omega)).trans (by assumption))) (by omega) (Nat.le_of_ble_eq_true rfl) (by first | (exact (congrFun (hw_2 (hw_2 (hw_I (by first | assumption | (exact ⟨by decide, rfl⟩)) (by decide)) (hw_I (by first | assumption | (exact ⟨by decide, rfl⟩)) (by decide))) (hw_I (by first | assumption | (exact ⟨by decide, rfl⟩)) (by decide))) _).trans (hc_o (by first | assumption | (exact ⟨by decide, rfl⟩)))) | assumption | (exact (hc_far (by omega)).trans (by assumption))) (by omega) (by first | rfl | assumption) (by first | (exact (congrFun (hw_2 (hw_2 (hw_I (by first | assumption | (exact ⟨by decide, rfl⟩)) (by decide)) (hw_I (by first | assumption | (exact ⟨by decide, rfl⟩)) (by decide))) (hw_I (by first | assumption | (exact ⟨by decide, rfl⟩)) (by decide))) _).trans (hc_o (by first | assumption | (exact ⟨by decide, rfl⟩)))) | assumption | (exact (hc_far (by omega)).trans (by assumption))) (by omega) (Nat.le_of_ble_eq_true rfl) (by first | (exact (congrFun (hw_2 (hw_2 (hw_2 (hw_I (by first | assumption | (exact ⟨by decide, rfl⟩)) (by decide)) (hw_I (by first | assumption | (exact ⟨by decide, rfl⟩)) (by decide))) (hw_I (by first | assumption | (exact ⟨by decide, rfl⟩)) (by decide))) (hw_I (by first | assumption | (exact ⟨by decide, rfl⟩)) (by decide))) _).trans (hc_o (by first | assumption | (exact ⟨by decide, rfl⟩)))) | assumption | (exact (hc_far (by omega)).trans (by assumption))) (by omega) (by first | rfl | assumption) (by first | (exact (congrFun (hw_2 (hw_2 (hw_2 (hw_I (by first | assumption | (exact ⟨by decide, rfl⟩)) (by decide)) (hw_I (by first | assumption | (exact ⟨by decide, rfl⟩)) (by decide))) (hw_I (by first | assumption | (exact ⟨by decide, rfl⟩)) (by decide))) (hw_I (by first | assumption | (exact ⟨by decide, rfl⟩)) (by decide))) _).trans (hc_o (by first | assumption | (exact ⟨by decide, rfl⟩)))) | assumption | (exact (hc_far (by omega)).trans (by assumption))) (by omega) ?_
  refine hw_W (hw_2 (hw_2 (hw_2 (hw_I (by first | assumption | (exact ⟨by decide, rfl⟩)) (by decide)) (hw_I (by first | assumption | (exact ⟨by decide, rfl⟩)) (by decide))) (hw_I (by first | assumption | (exact ⟨by decide, rfl⟩)) (by decide))) (hw_I (by first | assumption | (exact ⟨by decide, rfl⟩)) (by decide))) ?_
  show mi_W _ _ _ _ _ (n, sl, hc (cClr a) f0) _
  have hF := cClr_F (a := a)
  have hoc : (cClr a).AI 1 1 0 = a.AI 1 1 0 := rfl
  have hcl : (cClr a).I 2 3 11 = 0 ∧ (cClr a).I 2 3 12 = 0 ∧ (cClr a).I 4 16 4 = 0 ∧ (cClr a).I 4 20 4 = 0 ∧ (cClr a).I 4 24 4 = 0 ∧ (cClr a).I 4 28 4 = 0 := ⟨rfl, rfl, rfl, rfl, rfl, rfl⟩
  have hw6 : (cClr a).I 3 15 6 = -1 := rfl
  generalize cClr a = a1 at *
  refine b_20_0 _ _ _ ?_
  refine cs_fb (m := L) (a := a1) hn hL (fun i hi hb hno => ?_) (fun hno => ?_) L 0 (by omega) (fun j hj => absurd hj (Nat.not_lt_zero _))
  · rw [hoc] at hb hno
    refine b_18_52 _ _ _ ?_ ?_
    · intro z52
      refine b_18_64 _ _ _ ?_
      refine b_18_65 _ _ _ (by first | (exact hc_o (by first | assumption | (exact ⟨by decide, rfl⟩))) | assumption | (exact (hc_far (by omega)).trans (by assumption))) (by omega) ?_
      refine cr_at hn hG.2.1 (fun e => ?_) (fun _ => ?_)
      · exact absurd rfl e
      · refine hx_c (by decide +kernel) (by omega) ?_
        exact (K1 i hi hb hno).at hF rfl
    · intro z52
      exact absurd (Classical.not_not.mp z52) (of_m1 (by omega))
  · rw [hoc] at hno
    refine b_18_52 _ _ _ ?_ ?_
    · intro z52
      first | (exact absurd z52 (by decide)) | (exact absurd (by decide) z52) | (exact absurd rfl z52) | (exact absurd z52 (of_nn (by omega))) | (exact absurd (of_np (by omega)) z52) | omega
    · intro z52
      refine b_18_60 _ _ _ ?_
      refine b_18_65 _ _ _ (by first | (exact hc_o (by first | assumption | (exact ⟨by decide, rfl⟩))) | assumption | (exact (hc_far (by omega)).trans (by assumption))) (by omega) ?_
      refine cr_at hn hG.2.1 (fun _ => ?_) (fun e => ?_)
      · refine b_18_68 _ _ _ (by first | (exact hc_o (by first | assumption | (exact ⟨by decide, rfl⟩))) | assumption | (exact (hc_far (by omega)).trans (by assumption))) (by omega) (by first | rfl | assumption) (by first | (exact hc_o (by first | assumption | (exact ⟨by decide, rfl⟩))) | assumption | (exact (hc_far (by omega)).trans (by assumption))) (by omega) ?_
        refine cs_begin (d := d) hG hL hoc hcl (fun a2 h2 hF2 hw2 => ?_)
        refine b_18_76 _ _ _ ?_
        exact K0 hno a2 h2 (hF.trans hF2) (hw2.trans hw6)
      · exact absurd e (by decide)
theorem cr_fin (hG : cG n sl f0) (h : cst a g L σ) (K : σ.t.k = 39 → Q (.inl none) (n, sl, hc a f0)) (er : ¬ σ.t.k = 39 → cEr n sl f0 Q a σ.t.a) : mi_W (d + 2) 55 0 (mi_en 1 [.ref 15]) [] (n, sl, hc a f0) Q := by
  have hn := hG.1
  have h40 := h.1.k40
  have h2 := h.1.2.2.2.1
  refine b_55_0 _ _ _ (by first | (exact hc_o (by first | assumption | (exact ⟨by decide, rfl⟩))) | assumption | (exact (hc_far (by omega)).trans (by assumption))) (by omega) (by first | rfl | assumption) (by first | (exact hc_o (by first | assumption | (exact ⟨by decide, rfl⟩))) | assumption | (exact (hc_far (by omega)).trans (by assumption))) (by omega) (by first | rfl | assumption) ?_ ?_
  · intro z0
    have hk' : ¬ σ.t.k = 39 := fun e => z0 (by rw [h2, e]; rfl)
    refine b_55_17 _ _ _ ?_
    refine b_55_18 _ _ _ (by first | (exact hc_o (by first | assumption | (exact ⟨by decide, rfl⟩))) | assumption | (exact (hc_far (by omega)).trans (by assumption))) (by omega) ?_
    refine cr_re0 hn hG.2.1 ?_
    refine hx_c (by decide +kernel) (by omega) ?_
    exact (er hk').at cF.re h.1.2.2.2.2.1
  · intro z0
    have hk' : σ.t.k = 39 := (i_eq (b := 39) h2 rfl (by omega) (by omega)).mp (Classical.not_not.mp z0)
    refine b_55_13 _ _ _ ?_
    refine b_55_18 _ _ _ (by first | (exact hc_o (by first | assumption | (exact ⟨by decide, rfl⟩))) | assumption | (exact (hc_far (by omega)).trans (by assumption))) (by omega) ?_
    refine cr_re1 hn hG.2.1 ?_
    refine b_55_21 _ _ _ ?_
    exact K hk'
end
