/-! the first object: end, again, with what it reads given by another function -/
section
variable {d e n sl m fd : Nat} {a a0 a1 a' : mh_A} {σ σ0 σ1 : ms_S} {f0 : Nat → mi_C} {Q : (Option Value ⊕ Nat) → mi_H → Prop} {g : Nat → Int32} {gg : Nat → Nat → Int32} {L : Nat} {x : Int32}
theorem cs_begin2 (hG : cG n sl f0) (hL : L ≤ 8192) (hoc : ∀ k, k < L → a.AI 1 1 0 k = g k) (hcl : a.I 2 3 11 = 0 ∧ a.I 2 3 12 = 0 ∧ a.I 4 16 4 = 0 ∧ a.I 4 20 4 = 0 ∧ a.I 4 24 4 = 0 ∧ a.I 4 28 4 = 0) (K : ∀ a', cst a' g L (ms_s0 g L) → cF a a' → a'.I 3 15 6 = a.I 3 15 6 → Q (.inl none) (n, sl, hc a' f0)) : mi_W (d + 7) 22 0 (mi_en 2 [.ref 1, .int (Int32.ofNat L)]) [] (n, sl, hc a f0) Q := by
  have hn := hG.1
  have hmin : ¬ (8192 : Int32) < Int32.ofNat L := fun h => absurd ((i_lt (a := 8192) rfl rfl (by omega) (by omega)).mp h) (by omega)
  refine b_22_0 _ _ _ ?_
  refine cj_min ?_
  rw [if_neg hmin]
  refine b_22_8 _ _ _ (by first | (exact hc_o (by first | assumption | (exact ⟨by decide, rfl⟩))) | assumption | (exact (hc_far (by omega)).trans (by assumption))) (by omega) (Nat.le_of_ble_eq_true rfl) (by first | (exact (congrFun (hw_I (by first | assumption | (exact ⟨by decide, rfl⟩)) (by decide)) _).trans (hc_o (by first | assumption | (exact ⟨by decide, rfl⟩)))) | assumption | (exact (hc_far (by omega)).trans (by assumption))) (by omega) (Nat.le_of_ble_eq_true rfl) (by first | (exact (congrFun (hw_2 (hw_I (by first | assumption | (exact ⟨by decide, rfl⟩)) (by decide)) (hw_I (by first | assumption | (exact ⟨by decide, rfl⟩)) (by decide))) _).trans (hc_o (by first | assumption | (exact ⟨by decide, rfl⟩)))) | assumption | (exact (hc_far (by omega)).trans (by assumption))) (by omega) (Nat.le_of_ble_eq_true rfl) (by first | (exact (congrFun (hw_2 (hw_2 (hw_I (by first | assumption | (exact ⟨by decide, rfl⟩)) (by decide)) (hw_I (by first | assumption | (exact ⟨by decide, rfl⟩)) (by decide))) (hw_I (by first | assumption | (exact ⟨by decide, rfl⟩)) (by decide))) _).trans (hc_o (by first | assumption | (exact ⟨by decide, rfl⟩)))) | assumption | (exact (hc_far (by omega)).trans (by assumption))) (by omega) ?_
  refine hw_W (hw_2 (hw_2 (hw_I (by first | assumption | (exact ⟨by decide, rfl⟩)) (by decide)) (hw_I (by first | assumption | (exact ⟨by decide, rfl⟩)) (by decide))) (hw_I (by first | assumption | (exact ⟨by decide, rfl⟩)) (by decide))) ?_
  refine cs_adv (g := g) (p := 0) hn hG.2.2 rfl hL (fun k hk => hoc k hk) (Nat.zero_le _) rfl (fun v hv => ?_)
  refine b_22_25 _ _ _ ?_
  have hl := ms_nx_le (g := g) (L := L) (p := 0) (Nat.zero_le _)
  obtain ⟨k, hk, ek⟩ := ms_nx_tk (g := g) (L := L) (p := 0)
  have nt : ∀ p M, (p = 16 ∧ M = 8 ∨ p = 20 ∧ M = 4 ∨ p = 24 ∧ M = 8 ∨ p = 28 ∧ M = 8) → ∀ S W o, a.I 4 p 4 = 0 → cn_T (mh_tk (((a.sI 1 1 6 (Int32.ofNat L)).sI 1 1 3 0).sI 1 1 4 0) (ms_nx g L 0) v) p M L 0 S W o := by
    intro p M hp S W o h0
    rcases hp with ⟨rfl, rfl⟩ | ⟨rfl, rfl⟩ | ⟨rfl, rfl⟩ | ⟨rfl, rfl⟩ <;> exact ⟨⟨by decide, rfl⟩, by decide, rfl, rfl, rfl, h0, Nat.zero_le _, by decide, fun i hi => absurd hi (Nat.not_lt_zero _)⟩
  refine K _ ⟨⟨rfl, hL, fun k hk => hoc k hk, rfl, rfl, rfl, hv, k, hk (Nat.zero_le _), ek⟩, ⟨hcl.1, Nat.zero_le _⟩, ⟨hcl.2.1, Nat.zero_le _, fun i hi => absurd hi (Nat.not_lt_zero _)⟩, nt 16 8 (by decide) _ _ _ hcl.2.2.1, nt 20 4 (by decide) _ _ _ hcl.2.2.2.1, nt 28 8 (by decide) _ _ _ hcl.2.2.2.2.2, nt 24 8 (by decide) _ _ _ hcl.2.2.2.2.1, fun i hi => absurd hi (Nat.not_lt_zero _)⟩ ⟨fun c p k hc => ⟨?_, ?_, rfl, rfl⟩, rfl, rfl, rfl⟩ rfl
  · show (if c = 1 then _ else _) = _
    rw [if_neg (by omega)]
    unfold mh_A.sI mh_A.I
    dsimp only
    rw [mh_u_c (by omega), mh_u_c (by omega), mh_u_c (by omega)]
  · show (if c = 1 then _ else _) = _
    rw [if_neg (by omega)]
    rfl
theorem cr_begin2 (hG : cG n sl f0) (hL : L ≤ 8192) (hog : (∀ j, j < L → ¬ ms_fb (a.AI 1 1 0 j)) → ∀ k, k < L → a.AI 1 1 0 k = g k) (K1 : ∀ i, i < L → ms_fb (a.AI 1 1 0 i) → (∀ j, j < i → ¬ ms_fb (a.AI 1 1 0 j)) → cEr n sl f0 Q a i) (K0 : (∀ j, j < L → ¬ ms_fb (a.AI 1 1 0 j)) → ∀ a', cst a' g L (ms_s0 g L) → cF a a' → a'.I 3 15 6 = -1 → Q (.inl none) (n, sl, hc a' f0)) : mi_W (d + 8) 18 0 (mi_en 3 [.ref 15, .int (Int32.ofNat L)]) [] (n, sl, hc a f0) Q := by
  have hn := hG.1
  refine b_18_0 _ _ _ (by first | (exact hc_o (by first | assumption | (exact ⟨by decide, rfl⟩))) | assumption | (exact (hc_far (by omega)).trans (by assumption))) (by omega) (Nat.le_of_ble_eq_true rfl) (by first | (exact (congrFun (hw_I (by first | assumption | (exact ⟨by decide, rfl⟩)) (by decide)) _).trans (hc_o (by first | assumption | (exact ⟨by decide, rfl⟩)))) | assumption | (exact (hc_far (by omega)).trans (by assumption))) (by omega) (by first | rfl | assumption) (by first | (exact (congrFun (hw_I (by first | assumption | (exact ⟨by decide, rfl⟩)) (by decide)) _).trans (hc_o (by first | assumption | (exact ⟨by decide, rfl⟩)))) | assumption | (exact (hc_far (by omega)).trans (by assumption))) (by omega) ?_
  refine hw_W (hw_I (by first | assumption | (exact ⟨by decide, rfl⟩)) (by decide)) ?_
  refine b_19_0 _ _ _ (by first | (exact hc_o (by first | assumption | (exact ⟨by decide, rfl⟩))) | assumption | (exact (hc_far (by omega)).trans (by assumption))) (by omega) (Nat.le_of_ble_eq_true rfl) (by first | (exact (congrFun (hw_I (by first | assumption | (exact ⟨by decide, rfl⟩)) (by decide)) _).trans (hc_o (by first | assumption | (exact ⟨by decide, rfl⟩)))) | assumption | (exact (hc_far (by omega)).trans (by assumption))) (by omega) (Nat.le_of_ble_eq_true rfl) ?_
  refine hw_Q (hw_2 (hw_I (by first | assumption | (exact ⟨by decide, rfl⟩)) (by decide)) (hw_I (by first | assumption | (exact ⟨by decide, rfl⟩)) (by decide))) ?_
  refine b_18_12 _ _ _ (by first | (exact hc_o (by first | assumption | (exact ⟨by decide, rfl⟩))) | assumption | (exact (hc_far (by omega)).trans (by assumption))) (by omega) (by first | rfl | assumption) (by first | (exact hc_o (by first | assumption | (exact ⟨by decide, rfl⟩))) | assumption | (exact (hc_far (by omega)).trans (by assumption))) (by omega) (Nat.le_of_ble_eq_true rfl) (by first | (exact (congrFun (hw_I (by first | assumption | (exact ⟨by decide, rfl⟩)) (by decide)) _).trans (hc_o (by first | assumption | (exact ⟨by decide, rfl⟩)))) | assumption | (exact (hc_far (by omega)).trans (by assumption))) (by omega) (by first | rfl | assumption) (by first | (exact (congrFun (hw_I (by first | assumption | (exact ⟨by decide, rfl⟩)) (by decide)) _).trans (hc_o (by first | assumption | (exact ⟨by decide, rfl⟩)))) | assumption | (exact (hc_far (by omega)).trans (by assumption))) (by omega) (Nat.le_of_ble_eq_true rfl) (by first | (exact (congrFun (hw_2 (hw_I (by first | assumption | (exact ⟨by decide, rfl⟩)) (by decide)) (hw_I (by first | assumption | (exact ⟨by decide, rfl⟩)) (by decide))) _).trans (hc_o (by first | assumption | (exact ⟨by decide, rfl⟩)))) | assumption | (exact (hc_far (by omega)).trans (by assumption))) (by omega) (by first | rfl | assumption) (by first | (exact (congrFun (hw_2 (hw_I (by first | assumption | (exact ⟨by decide, rfl⟩)) (by decide)) (hw_I (by first | assumption | (exact ⟨by decide, rfl⟩)) (by decide))) _).trans (hc_o (by first | assumption | (exact ⟨by decide, rfl⟩)))) | assumption | (exact (hc_far (by omega)).trans (by assumption))) (by omega) (Nat.le_of_ble_eq_true rfl) (by first | (exact (congrFun (hw_2 (hw_2 (hw_I (by first | assumption | (exact ⟨by decide, rfl⟩)) (by decide)) (hw_I (by first | assumption | (exact ⟨by decide, rfl⟩)) (by decide))) (hw_I (by first | assumption | (exact ⟨by decide, rfl⟩)) (by decide))) _).trans (hc_o (by first | assumption | (exact ⟨by decide, rfl⟩)))) | assumption | (exact (hc_far (by omega)).trans (by assumption))) (by omega) (by first | rfl | assumption) (by first | (exact (congrFun (hw_2 (hw_2 (hw_I (by first | assumption | (exact ⟨by decide, rfl⟩)) (by decide)) (hw_I (by first | assumption | (exact ⟨by decide, rfl⟩)) (by decide))) (hw_I (by first | assumption | (exact ⟨by decide, rfl⟩)) (by decide))) _).trans (hc_o (by first | assumption | (exact ⟨by decide, rfl⟩)))) | assumption | (exact (hc_far (by omega)).trans (by assumption))) (by omega) (Nat.le_of_ble_eq_true rfl) (by first | (exact (congrFun (hw_2 (hw_2 (hw_2 (hw_I (by first | assumption | (exact ⟨by decide, rfl⟩)) (by decide)) (hw_I (by first | assumption | (exact ⟨by decide, rfl⟩)) (by decide))) (hw_I (by first | assumption | (exact ⟨by decide, rfl⟩)) (by decide))) (hw_I (by first | assumption | (exact ⟨by decide, rfl⟩)) (by decide))) _).trans (hc_o (by first | assumption | (exact ⟨by decide, rfl⟩)))) | assumption | (exact (hc_far (by omega)).trans (by assumption))) (by omega) (by first | rfl | assumption) (by first | (exact (congrFun (hw_2 (hw_2 (hw_2 (hw_I (by first | assumption | (exact ⟨by decide, rfl⟩)) (by decide)) (hw_I (by first | assumption | (exact ⟨by decide, rfl⟩)) (by decide))) (hw_I (by first | assumption | (exact ⟨by decide, rfl⟩)) (by decide))) (hw_I (by first | assumption | (exact ⟨by decide, rfl⟩)) (by decide))) _).trans (hc_o (by first | assumption | (exact ⟨by decide, rfl⟩)))) | assumption | (exact (hc_far (by omega)).trans (by assumption))) (by omega) ?_
  refine hw_W (hw_2 (hw_2 (hw_2 (hw_I (by first | assumption | (exact ⟨by decide, rfl⟩)) (by decide)) (hw_I (by first | assumption | (exact ⟨by decide, rfl⟩)) (by decide))) (hw_I (by first | assumption | (exact ⟨by decide, rfl⟩)) (by decide))) (hw_I (by first | assumption | (exact ⟨by decide, rfl⟩)) (by decide))) ?_
  show mi_W _ _ _ _ _ (n, sl, hc (cClr a) f0) _
  have hF := cClr_F (a := a)
  have hoc : (cClr a).AI 1 1 0 = a.AI 1 1 0 := rfl
  have hcl : (cClr a).I 2 3 11 = 0 ∧ (cClr a).I 2 3 12 = 0 ∧ (cClr a).I 4 16 4 = 0 ∧ (cClr a).I 4 20 4 = 0 ∧ (cClr a).I 4 24 4 = 0 ∧ (cClr a).I 4 28 4 = 0 := ⟨rfl, rfl, rfl, rfl, rfl, rfl⟩
  have hw6 : (cClr a).I 3 15 6 = -1 := rfl
  generalize cClr a = a1 at *
  refine b_20_0 _ _ _ ?_
  refine cs_fb (m := L) (a := a1) hn hL (fun i hi hb hno => ?_) (fun hno => ?_) L 0 (by omega) (fun j hj => absurd hj (Nat.not_lt_zero _))
  · rw [hoc] at hb hno
    refine b_18_52 _ _ _ ?_ ?_
    · intro z52
      refine b_18_64 _ _ _ ?_
      refine b_18_65 _ _ _ (by first | (exact hc_o (by first | assumption | (exact ⟨by decide, rfl⟩))) | assumption | (exact (hc_far (by omega)).trans (by assumption))) (by omega) ?_
      refine cr_at hn hG.2.1 (fun e => ?_) (fun _ => ?_)
      · exact absurd rfl e
      · refine hx_c (by decide +kernel) (by omega) ?_
        exact (K1 i hi hb hno).at hF rfl
    · intro z52
      exact absurd (Classical.not_not.mp z52) (of_m1 (by omega))
  · rw [hoc] at hno
    refine b_18_52 _ _ _ ?_ ?_
    · intro z52
      first | (exact absurd z52 (by decide)) | (exact absurd (by decide) z52) | (exact absurd rfl z52) | (exact absurd z52 (of_nn (by omega))) | (exact absurd (of_np (by omega)) z52) | omega
    · intro z52
      refine b_18_60 _ _ _ ?_
      refine b_18_65 _ _ _ (by first | (exact hc_o (by first | assumption | (exact ⟨by decide, rfl⟩))) | assumption | (exact (hc_far (by omega)).trans (by assumption))) (by omega) ?_
      refine cr_at hn hG.2.1 (fun _ => ?_) (fun e => ?_)
      · refine b_18_68 _ _ _ (by first | (exact hc_o (by first | assumption | (exact ⟨by decide, rfl⟩))) | assumption | (exact (hc_far (by omega)).trans (by assumption))) (by omega) (by first | rfl | assumption) (by first | (exact hc_o (by first | assumption | (exact ⟨by decide, rfl⟩))) | assumption | (exact (hc_far (by omega)).trans (by assumption))) (by omega) ?_
        refine cs_begin2 (d := d) (g := g) hG hL (by rw [hoc]; exact hog hno) hcl (fun a2 h2 hF2 hw2 => ?_)
        refine b_18_76 _ _ _ ?_
        exact K0 hno a2 h2 (hF.trans hF2) (hw2.trans hw6)
      · exact absurd e (by decide)
theorem ce_end2 (hG : cG n sl f0) (hog : ∀ L, L ≤ fd → (∀ j, j < L → ¬ ms_fb (a.AI 1 1 0 j)) → ∀ k, k < L → a.AI 1 1 0 k = gg L k) (hfd : a.I 1 1 1 = Int32.ofNat fd) (hfd2 : fd ≤ 8200) (K1 : (x < 0 ∨ 8192 < x ∨ ¬ x ≤ a.I 1 1 1) → Q (.inr n) (n + 1, sl + 6, hc a (va_up f0 n (.inr (14, []))))) (K2 : ∀ L w a', x = Int32.ofNat L → L ≤ 8192 → L ≤ fd → ((w < L ∧ ms_fb (a.AI 1 1 0 w) ∧ ∀ j, j < w → ¬ ms_fb (a.AI 1 1 0 j)) ∨ (∀ j, j < L → ¬ ms_fb (a.AI 1 1 0 j)) ∧ ms_read (gg L) L = .error w) → cE a a' → a'.I 3 15 6 = Int32.ofNat w → a'.I 0 0 9 = 0 → Q (.inr n) (n + 1, sl + 6, hc a' (va_up f0 n (.inr (15, []))))) (K3 : ∀ L σ a', x = Int32.ofNat L → L ≤ 8192 → L ≤ fd → (∀ j, j < L → ¬ ms_fb (a.AI 1 1 0 j)) → ms_read (gg L) L = .ok ((), σ) → cst a' (gg L) L σ → crg 0 σ.n a' σ.tb → a'.AI 2 3 7 0 = Int32.ofNat σ.n → 0 < σ.n → cS0 a' 497 → cE a a' → a'.I 3 15 6 = -1 → a'.I 0 0 9 = 1 → Q (.inl (some (.int (Int32.ofNat σ.n)))) (n, sl, hc a' f0)) : mi_W (e + 213) 17 0 (mi_en 2 [.ref 0, .int x]) [] (n, sl, hc a f0) Q := by
  have hn := hG.1
  have hN := hG.2.1
  refine b_17_0 _ _ _ ?_ ?_
  · intro z0
    refine b_17_22 _ _ _ (mi_tq_ok (ce := 14) (by decide +kernel) (by omega) (by omega)) ?_
    refine hw_Q (hc_out (by omega)) ?_
    exact K1 (by first | exact Or.inl z0 | exact Or.inr (Or.inl z4) | exact Or.inr (Or.inr z11))
  · intro z0
    refine b_17_4 _ _ _ ?_ ?_
    · intro z4
      refine b_17_22 _ _ _ (mi_tq_ok (ce := 14) (by decide +kernel) (by omega) (by omega)) ?_
      refine hw_Q (hc_out (by omega)) ?_
      exact K1 (by first | exact Or.inl z0 | exact Or.inr (Or.inl z4) | exact Or.inr (Or.inr z11))
    · intro z4
      refine b_17_11 _ _ _ (by first | (exact hc_o (by first | assumption | (exact ⟨by decide, rfl⟩))) | assumption | (exact (hc_far (by omega)).trans (by assumption))) (by omega) (by first | rfl | assumption) (by first | (exact hc_o (by first | assumption | (exact ⟨by decide, rfl⟩))) | assumption | (exact (hc_far (by omega)).trans (by assumption))) (by omega) (by first | rfl | assumption) ?_ ?_
      · intro z11
        obtain ⟨L, rfl, hL⟩ : ∃ L : Nat, x = Int32.ofNat L ∧ L ≤ 8192 := by
          have h1 : 0 ≤ x.toInt := by
            rw [Int32.lt_iff_toInt_lt] at z0
            exact Int.not_lt.mp z0
          have h2 : x.toInt ≤ 8192 := by
            rw [Int32.lt_iff_toInt_lt] at z4
            exact Int.not_lt.mp z4
          exact ⟨x.toInt.toNat, i_of h1, by omega⟩
        have hLf : L ≤ fd := (i_le rfl hfd (by omega) (by omega)).mp z11
        refine b_17_32 _ _ _ (by first | (exact hc_o (by first | assumption | (exact ⟨by decide, rfl⟩))) | assumption | (exact (hc_far (by omega)).trans (by assumption))) (by omega) (by first | rfl | assumption) (by first | (exact hc_o (by first | assumption | (exact ⟨by decide, rfl⟩))) | assumption | (exact (hc_far (by omega)).trans (by assumption))) (by omega) (Nat.le_of_ble_eq_true rfl) (by first | (exact (congrFun (hw_I (by first | assumption | (exact ⟨by decide, rfl⟩)) (by decide)) _).trans (hc_o (by first | assumption | (exact ⟨by decide, rfl⟩)))) | assumption | (exact (hc_far (by omega)).trans (by assumption))) (by omega) (by first | rfl | assumption) (by first | (exact (congrFun (hw_I (by first | assumption | (exact ⟨by decide, rfl⟩)) (by decide)) _).trans (hc_o (by first | assumption | (exact ⟨by decide, rfl⟩)))) | assumption | (exact (hc_far (by omega)).trans (by assumption))) (by omega) (Nat.le_of_ble_eq_true rfl) (by first | (exact (congrFun (hw_2 (hw_I (by first | assumption | (exact ⟨by decide, rfl⟩)) (by decide)) (hw_I (by first | assumption | (exact ⟨by decide, rfl⟩)) (by decide))) _).trans (hc_o (by first | assumption | (exact ⟨by decide, rfl⟩)))) | assumption | (exact (hc_far (by omega)).trans (by assumption))) (by omega) (Nat.le_of_ble_eq_true rfl) (by first | assumption | (exact mL_get (by decide)) | (rw [mL_len]; decide) | (simp only [mL_set]; exact mL_get (by decide)) | (simp only [mL_set, mL_len]; decide) | (exact va_eq) | (exact (va_ne (by omega)).trans (by assumption)) | (exact (va_ne (by omega)).trans va_eq) | (exact (va_ne (by omega)).trans ((va_ne (by omega)).trans (by assumption))) | (exact (va_ne (by omega)).trans ((va_ne (by omega)).trans ((va_ne (by omega)).trans (by assumption)))) | rfl | (exact Or.inl rfl) | (exact Or.inr rfl) | omega | (exact Nat.le_of_ble_eq_true rfl) | decide | (exact ⟨by decide, rfl, by decide⟩)) (by first | (exact (congrFun (hw_2 (hw_2 (hw_I (by first | assumption | (exact ⟨by decide, rfl⟩)) (by decide)) (hw_I (by first | assumption | (exact ⟨by decide, rfl⟩)) (by decide))) (hw_I (by first | assumption | (exact ⟨by decide, rfl⟩)) (by decide))) _).trans (hc_o (by first | assumption | (exact ⟨by decide, rfl⟩)))) | assumption | (exact (hc_far (by omega)).trans (by assumption))) (by omega) (by first | rfl | assumption) (by first | (exact (congrFun (hw_2 (hw_2 (hw_I (by first | assumption | (exact ⟨by decide, rfl⟩)) (by decide)) (hw_I (by first | assumption | (exact ⟨by decide, rfl⟩)) (by decide))) (hw_I (by first | assumption | (exact ⟨by decide, rfl⟩)) (by decide))) _).trans (hc_o (by first | assumption | (exact ⟨by decide, rfl⟩)))) | assumption | (exact (hc_far (by omega)).trans (by assumption))) (by omega) ?_
        refine hw_W (hw_2 (hw_2 (hw_I (by first | assumption | (exact ⟨by decide, rfl⟩)) (by decide)) (hw_I (by first | assumption | (exact ⟨by decide, rfl⟩)) (by decide))) (hw_I (by first | assumption | (exact ⟨by decide, rfl⟩)) (by decide))) ?_
        show mi_W _ _ _ _ _ (n, sl, hc (cE1 a) f0) _
        have hmk : ∀ w, ((w < L ∧ ms_fb (a.AI 1 1 0 w) ∧ ∀ j, j < w → ¬ ms_fb (a.AI 1 1 0 j)) ∨ (∀ j, j < L → ¬ ms_fb (a.AI 1 1 0 j)) ∧ ms_read (gg L) L = .error w) → cEr n sl f0 Q (cE1 a) w := fun w hw a' hF h6 => K2 L w a' rfl hL hLf hw (cE.of hF) h6 ((hF.1 0 0 9 (by decide)).1.trans rfl)
        have hoc1 : (cE1 a).AI 1 1 0 = a.AI 1 1 0 := rfl
        have hE : ∀ a', cF (cE1 a) a' → cE a a' := fun a' h => cE.of h
        generalize cE1 a = a1 at *
        refine cr_begin2 (d := e + 204) (g := gg L) hG hL (by rw [hoc1]; exact hog L hLf) (fun i hi hb hno => ?_) (fun hno a2 h2 hF2 hw2 => ?_)
        · rw [hoc1] at hb hno
          exact cEr.kc (by decide +kernel) (by omega) (hmk i (Or.inl ⟨hi, hb, hno⟩))
        · rw [hoc1] at hno
          refine b_17_61 _ _ _ (by first | (exact hc_o (by first | assumption | (exact ⟨by decide, rfl⟩))) | assumption | (exact (hc_far (by omega)).trans (by assumption))) (by omega) (by first | rfl | assumption) (by first | (exact hc_o (by first | assumption | (exact ⟨by decide, rfl⟩))) | assumption | (exact (hc_far (by omega)).trans (by assumption))) (by omega) ?_
          refine co_C hG 100 (Nat.le_refl _) (e + 212) a2 (ms_s0 (gg L) L) _ (by omega) h2 (fun a3 σ3 hok h3 g3 r3 e7 hlt => ?_) (fun w hw => ?_)
          · have hw3 : a3.I 3 15 6 = -1 := g3.2.2.2.trans hw2
            have hrd : ms_read (gg L) L = if σ3.t.k = 39 then .ok ((), σ3) else .error σ3.t.a := by unfold ms_read; rw [hok]; rfl
            refine b_17_69 _ _ _ (by first | (exact hc_o (by first | assumption | (exact ⟨by decide, rfl⟩))) | assumption | (exact (hc_far (by omega)).trans (by assumption))) (by omega) (by first | rfl | assumption) (by first | (exact hc_o (by first | assumption | (exact ⟨by decide, rfl⟩))) | assumption | (exact (hc_far (by omega)).trans (by assumption))) (by omega) ?_
            refine cr_fin (d := e + 210) hG h3 (fun hk => ?_) (fun hk => ?_)
            · rw [if_pos hk] at hrd
              refine b_17_77 _ _ _ (by first | (exact hc_o (by first | assumption | (exact ⟨by decide, rfl⟩))) | assumption | (exact (hc_far (by omega)).trans (by assumption))) (by omega) (Nat.le_of_ble_eq_true rfl) (by first | assumption | (exact mL_get (by decide)) | (rw [mL_len]; decide) | (simp only [mL_set]; exact mL_get (by decide)) | (simp only [mL_set, mL_len]; decide) | (exact va_eq) | (exact (va_ne (by omega)).trans (by assumption)) | (exact (va_ne (by omega)).trans va_eq) | (exact (va_ne (by omega)).trans ((va_ne (by omega)).trans (by assumption))) | (exact (va_ne (by omega)).trans ((va_ne (by omega)).trans ((va_ne (by omega)).trans (by assumption)))) | rfl | (exact Or.inl rfl) | (exact Or.inr rfl) | omega | (exact Nat.le_of_ble_eq_true rfl) | decide | (exact ⟨by decide, rfl, by decide⟩)) (by first | (exact (congrFun (hw_I (by first | assumption | (exact ⟨by decide, rfl⟩)) (by decide)) _).trans (hc_o (by first | assumption | (exact ⟨by decide, rfl⟩)))) | assumption | (exact (hc_far (by omega)).trans (by assumption))) (by omega) (by first | rfl | assumption) (by first | (exact (congrFun (hw_I (by first | assumption | (exact ⟨by decide, rfl⟩)) (by decide)) _).trans (hc_o (by first | assumption | (exact ⟨by decide, rfl⟩)))) | assumption | (exact (hc_far (by omega)).trans (by assumption))) (by omega) ?_
              refine hw_W (hw_I (by first | assumption | (exact ⟨by decide, rfl⟩)) (by decide)) ?_
              refine cs_beg (d := e + 211) hn (fun a4 h4 hF4 => ?_)
              refine b_17_89 _ _ _ (by first | (exact hc_o (by first | assumption | (exact ⟨by decide, rfl⟩))) | assumption | (exact (hc_far (by omega)).trans (by assumption))) (by omega) (by first | rfl | assumption) (by first | (exact hc_o (by first | assumption | (exact ⟨by decide, rfl⟩))) | assumption | (exact (hc_far (by omega)).trans (by assumption))) (by omega) (by first | rfl | assumption) ?_
              have hE3 := hE a3 (hF2.trans g3.1)
              have f4 := hF4.2
              have h11 : a4.I 2 3 11 = Int32.ofNat σ3.n := (f4 2 3 11 (by decide)).1.trans h3.2.1.1
              rw [h11]
              have cT4 : ∀ p M c S W o, cn_T a3 p M L c S W o → cn_T a4 p M L c S W o := by
                intro p M c S W o h
                obtain ⟨t1, t2, t3, t4, t5, t6, t7, t8, t9⟩ := h
                refine ⟨t1, t2, t3, t4, t5, (f4 4 p 4 (fun z => absurd z.1 (by decide))).1.trans t6, t7, t8, fun i hi => ?_⟩
                rw [(f4 4 p 1 (fun z => absurd z.1 (by decide))).2.2.1, (f4 4 p 2 (fun z => absurd z.1 (by decide))).2.2.1, (f4 4 p 3 (fun z => absurd z.1 (by decide))).2.2.1]
                exact t9 i hi
              obtain ⟨⟨s1, s2, s3, s4, s5, s6, s7, s8⟩, ⟨s9, s10⟩, ⟨s11, s12, s13⟩, s14, s15, s16, s17, s18⟩ := h3
              refine K3 L σ3 a4 rfl hL hLf hno hrd ⟨⟨(f4 1 1 6 (by decide)).1.trans s1, s2, fun k hk => by rw [(f4 1 1 0 (by decide)).2.2.1]; exact s3 k hk, (f4 1 1 2 (by decide)).1.trans s4, (f4 1 1 3 (by decide)).1.trans s5, (f4 1 1 4 (by decide)).1.trans s6, fun h => (f4 1 1 5 (by decide)).2.1.trans (s7 h), s8⟩, ⟨h11, s10⟩, ⟨(f4 2 3 12 (by decide)).1.trans s11, s12, fun i hi => by rw [(f4 2 3 10 (by decide)).2.2.2]; exact s13 i hi⟩, cT4 _ _ _ _ _ _ s14, cT4 _ _ _ _ _ _ s15, cT4 _ _ _ _ _ _ s16, cT4 _ _ _ _ _ _ s17, s18⟩ (r3.to (fun m _ _ => ⟨fun k _ => by rw [(f4 2 3 k (by decide)).2.2.1]; rfl, by rw [(f4 2 3 9 (by decide)).2.2.2]; rfl⟩) (fun _ _ _ => rfl)) (by rw [(f4 2 3 7 (by decide)).2.2.1]; exact e7) hlt h4 ?_ ((f4 3 15 6 (by decide)).1.trans hw3) ((f4 0 0 9 (by decide)).1.trans rfl)
              refine ⟨hF4.1.trans hE3.1, (f4 1 1 1 (by decide)).1.trans hE3.2.1, (f4 6 35 5 (by decide)).1.trans hE3.2.2.1, (f4 1 1 0 (by decide)).2.2.1.trans hE3.2.2.2.1, fun c p k hc h9 => ?_⟩
              have q := hE3.2.2.2.2 c p k hc h9
              have f := f4 c p k h9
              exact ⟨fun h6 => f.1.trans ((show mh_u a3.I 0 0 9 1 c p k = a3.I c p k from mh_u_c (by omega)).trans (q.1 h6)), f.2.1.trans q.2.1, f.2.2.1.trans q.2.2.1, f.2.2.2.trans q.2.2.2⟩
            · exact cEr.kc (by decide +kernel) (by omega) ((hmk _ (Or.inr ⟨hno, by rw [hrd, if_neg hk]⟩)).go (hF2.trans g3.1))
          · exact cEr.kc (by decide +kernel) (by omega) ((hmk w (Or.inr ⟨hno, by unfold ms_read; rw [hw]; rfl⟩)).go hF2)
      · intro z11
        refine b_17_22 _ _ _ (mi_tq_ok (ce := 14) (by decide +kernel) (by omega) (by omega)) ?_
        refine hw_Q (hc_out (by omega)) ?_
        exact K1 (by first | exact Or.inl z0 | exact Or.inr (Or.inl z4) | exact Or.inr (Or.inr z11))
end
