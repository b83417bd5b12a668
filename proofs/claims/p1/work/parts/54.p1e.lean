section
variable {d n sl : Nat} {f : Nat → mi_C} {Q : (Option Value ⊕ Nat) → mi_H → Prop}
theorem mp_cx {y pc ce : Nat} {ls : mi_L} {rest : List Value} (hf : mi_hf (mt_oc y) pc ce (mt_hd y) = some none) (k : Q (.inr n) (n + 1, sl + 6, va_up f n (.inr (ce, [])))) : mi_Kc d y pc ls rest Q (.inr n) (n + 1, sl + 6, va_up f n (.inr (ce, []))) :=
  ⟨ce, [], by simp [va_up], Nat.lt_succ_self n, Or.inr ⟨hf, k⟩⟩
theorem mp_ch {y pc ce hp : Nat} {ls : mi_L} {rest : List Value} (hf : mi_hf (mt_oc y) pc ce (mt_hd y) = some (some hp)) (k : mi_W (d + 1) y hp ls [.ref n] (n + 1, sl + 6, va_up f n (.inr (ce, []))) Q) : mi_Kc d y pc ls rest Q (.inr n) (n + 1, sl + 6, va_up f n (.inr (ce, []))) :=
  ⟨ce, [], by simp [va_up], Nat.lt_succ_self n, Or.inl ⟨hp, hf, k⟩⟩
theorem sc_req (hP : mp_P n sl f) (k : Q (.inr n) (n + 1, sl + 6, va_up f n (.inr (16, [])))) : mi_W d 72 0 (mi_en 1 [.ref 0]) [] (n, sl, f) Q := by
  obtain ⟨⟨hn, hn2, hs⟩, hP⟩ := hP
  have q0 : f 0 = .inr (0, [.ref 1, .ref 3, .ref 15, .ref 32, .ref 35, .ref 41, .ref 54, .ref 497, .ref 501, .int 0]) := (hP 0 (by omega)).trans mp_q0
  refine b_72_0 _ _ _ (by first | assumption | rfl | (exact Or.inl rfl) | (exact Or.inr rfl) | omega | (exact Nat.le_of_ble_eq_true rfl) | decide | (exact ⟨by decide, rfl, by decide⟩)) (by first | assumption | rfl | (exact Or.inl rfl) | (exact Or.inr rfl) | omega | (exact Nat.le_of_ble_eq_true rfl) | decide | (exact ⟨by decide, rfl, by decide⟩)) (by first | assumption | rfl | (exact Or.inl rfl) | (exact Or.inr rfl) | omega | (exact Nat.le_of_ble_eq_true rfl) | decide | (exact ⟨by decide, rfl, by decide⟩)) ?_ ?_
  · intro e
    exact absurd rfl e
  · intro _
    refine b_72_7 _ _ _ (mi_tq_ok (ce := 16) (by decide +kernel) (by omega) (by omega)) ?_
    exact k
theorem sc_apply {a b : Int64} (hP : mp_P n sl f) (k : Q (.inr n) (n + 1, sl + 6, va_up f n (.inr (16, [])))) : mi_W (d + 1) 71 0 (mi_en 6 [.ref 0, .long a, .long b]) [] (n, sl, f) Q := by
  have hP0 := hP
  obtain ⟨⟨hn, hn2, hs⟩, hP⟩ := hP
  have q0 : f 0 = .inr (0, [.ref 1, .ref 3, .ref 15, .ref 32, .ref 35, .ref 41, .ref 54, .ref 497, .ref 501, .int 0]) := (hP 0 (by omega)).trans mp_q0
  refine b_71_0 _ _ _ (by first | assumption | rfl | (exact Or.inl rfl) | (exact Or.inr rfl) | omega | (exact Nat.le_of_ble_eq_true rfl) | decide | (exact ⟨by decide, rfl, by decide⟩)) (by first | assumption | rfl | (exact Or.inl rfl) | (exact Or.inr rfl) | omega | (exact Nat.le_of_ble_eq_true rfl) | decide | (exact ⟨by decide, rfl, by decide⟩)) ?_
  exact sc_req hP0 (mp_cx (by decide +kernel) k)
theorem sc_analyse (hP : mp_P n sl f) (k : Q (.inr n) (n + 1, sl + 6, va_up f n (.inr (16, [])))) : mi_W (d + 1) 120 0 (mi_en 1 [.ref 0]) [] (n, sl, f) Q := by
  have hP0 := hP
  obtain ⟨⟨hn, hn2, hs⟩, hP⟩ := hP
  have q0 : f 0 = .inr (0, [.ref 1, .ref 3, .ref 15, .ref 32, .ref 35, .ref 41, .ref 54, .ref 497, .ref 501, .int 0]) := (hP 0 (by omega)).trans mp_q0
  refine b_120_0 _ _ _ (by first | assumption | rfl | (exact Or.inl rfl) | (exact Or.inr rfl) | omega | (exact Nat.le_of_ble_eq_true rfl) | decide | (exact ⟨by decide, rfl, by decide⟩)) (by first | assumption | rfl | (exact Or.inl rfl) | (exact Or.inr rfl) | omega | (exact Nat.le_of_ble_eq_true rfl) | decide | (exact ⟨by decide, rfl, by decide⟩)) ?_
  exact sc_req hP0 (mp_cx (by decide +kernel) k)
theorem sc_told {w j : Int32} (hP : mp_P n sl f) (k1 : ¬ mp_r w 0 4 → Q (.inr n) (n + 1, sl + 6, va_up f n (.inr (15, [])))) (k2 : mp_r w 0 4 → Q (.inr n) (n + 1, sl + 6, va_up f n (.inr (14, [])))) : mi_W d 114 0 (mi_en 4 [.ref 0, .int w, .int j]) [] (n, sl, f) Q := by
  obtain ⟨⟨hn, hn2, hs⟩, hP⟩ := hP
  have q0 : f 0 = .inr (0, [.ref 1, .ref 3, .ref 15, .ref 32, .ref 35, .ref 41, .ref 54, .ref 497, .ref 501, .int 0]) := (hP 0 (by omega)).trans mp_q0
  have q41 : f 41 = .inr (7, [.ref 3, .ref 32, .ref 53, .ref 49, .long 0, .long 0, .int 0, .ref 42]) := (hP 41 (by omega)).trans mp_q41
  have q42 : f 42 = .inr (8, [.ref 43, .ref 44, .ref 45, .ref 46, .ref 47, .ref 48, .int 0, .int 0]) := (hP 42 (by omega)).trans mp_q42
  refine b_114_0 _ _ _ ?_ ?_
  · intro e
    refine b_114_9 _ _ _ (mi_tq_ok (ce := 15) (by decide +kernel) (by omega) (by omega)) ?_
    exact k1 (fun z => z.1 e)
  · intro e
    refine b_114_4 _ _ _ ?_ ?_
    · intro e2
      have hr : mp_r w 0 4 := ⟨e, Int32.not_lt.mpr e2⟩
      refine b_114_19 _ _ _ (by first | assumption | rfl | (exact Or.inl rfl) | (exact Or.inr rfl) | omega | (exact Nat.le_of_ble_eq_true rfl) | decide | (exact ⟨by decide, rfl, by decide⟩)) (by first | assumption | rfl | (exact Or.inl rfl) | (exact Or.inr rfl) | omega | (exact Nat.le_of_ble_eq_true rfl) | decide | (exact ⟨by decide, rfl, by decide⟩)) (by first | assumption | rfl | (exact Or.inl rfl) | (exact Or.inr rfl) | omega | (exact Nat.le_of_ble_eq_true rfl) | decide | (exact ⟨by decide, rfl, by decide⟩)) (by first | assumption | rfl | (exact Or.inl rfl) | (exact Or.inr rfl) | omega | (exact Nat.le_of_ble_eq_true rfl) | decide | (exact ⟨by decide, rfl, by decide⟩)) (by first | assumption | rfl | (exact Or.inl rfl) | (exact Or.inr rfl) | omega | (exact Nat.le_of_ble_eq_true rfl) | decide | (exact ⟨by decide, rfl, by decide⟩)) (by first | assumption | rfl | (exact Or.inl rfl) | (exact Or.inr rfl) | omega | (exact Nat.le_of_ble_eq_true rfl) | decide | (exact ⟨by decide, rfl, by decide⟩)) ?_ ?_
      · intro _
        refine b_114_51 _ _ _ (mi_tq_ok (ce := 14) (by decide +kernel) (by omega) (by omega)) ?_
        exact k2 hr
      · intro e3
        refine b_114_31 _ _ _ ?_ ?_
        · intro _
          refine b_114_44 _ _ _ (by first | assumption | rfl | (exact Or.inl rfl) | (exact Or.inr rfl) | omega | (exact Nat.le_of_ble_eq_true rfl) | decide | (exact ⟨by decide, rfl, by decide⟩)) (by first | assumption | rfl | (exact Or.inl rfl) | (exact Or.inr rfl) | omega | (exact Nat.le_of_ble_eq_true rfl) | decide | (exact ⟨by decide, rfl, by decide⟩)) (by first | assumption | rfl | (exact Or.inl rfl) | (exact Or.inr rfl) | omega | (exact Nat.le_of_ble_eq_true rfl) | decide | (exact ⟨by decide, rfl, by decide⟩)) ?_
          refine b_114_48 _ _ _ ?_ ?_
          · intro z
            exact absurd z e3
          · intro _
            refine b_114_51 _ _ _ (mi_tq_ok (ce := 14) (by decide +kernel) (by omega) (by omega)) ?_
            exact k2 hr
        · intro _
          refine b_114_37 _ _ _ (by first | assumption | rfl | (exact Or.inl rfl) | (exact Or.inr rfl) | omega | (exact Nat.le_of_ble_eq_true rfl) | decide | (exact ⟨by decide, rfl, by decide⟩)) (by first | assumption | rfl | (exact Or.inl rfl) | (exact Or.inr rfl) | omega | (exact Nat.le_of_ble_eq_true rfl) | decide | (exact ⟨by decide, rfl, by decide⟩)) (by first | assumption | rfl | (exact Or.inl rfl) | (exact Or.inr rfl) | omega | (exact Nat.le_of_ble_eq_true rfl) | decide | (exact ⟨by decide, rfl, by decide⟩)) ?_
          refine b_114_48 _ _ _ ?_ ?_
          · intro z
            exact absurd z e3
          · intro _
            refine b_114_51 _ _ _ (mi_tq_ok (ce := 14) (by decide +kernel) (by omega) (by omega)) ?_
            exact k2 hr
    · intro e2
      refine b_114_9 _ _ _ (mi_tq_ok (ce := 15) (by decide +kernel) (by omega) (by omega)) ?_
      exact k1 (fun z => e2 (Int32.not_lt.mp z.2))
theorem sc_paid {j : Int32} (hP : mp_P n sl f) (k : Q (.inr n) (n + 1, sl + 6, va_up f n (.inr (14, [])))) : mi_W d 116 0 (mi_en 2 [.ref 0, .int j]) [] (n, sl, f) Q := by
  obtain ⟨⟨hn, hn2, hs⟩, hP⟩ := hP
  have q0 : f 0 = .inr (0, [.ref 1, .ref 3, .ref 15, .ref 32, .ref 35, .ref 41, .ref 54, .ref 497, .ref 501, .int 0]) := (hP 0 (by omega)).trans mp_q0
  have q41 : f 41 = .inr (7, [.ref 3, .ref 32, .ref 53, .ref 49, .long 0, .long 0, .int 0, .ref 42]) := (hP 41 (by omega)).trans mp_q41
  have q42 : f 42 = .inr (8, [.ref 43, .ref 44, .ref 45, .ref 46, .ref 47, .ref 48, .int 0, .int 0]) := (hP 42 (by omega)).trans mp_q42
  refine b_116_0 _ _ _ ?_ ?_
  · intro e
    refine b_116_18 _ _ _ (mi_tq_ok (ce := 14) (by decide +kernel) (by omega) (by omega)) ?_
    exact k
  · intro e
    refine b_116_4 _ _ _ (by first | assumption | rfl | (exact Or.inl rfl) | (exact Or.inr rfl) | omega | (exact Nat.le_of_ble_eq_true rfl) | decide | (exact ⟨by decide, rfl, by decide⟩)) (by first | assumption | rfl | (exact Or.inl rfl) | (exact Or.inr rfl) | omega | (exact Nat.le_of_ble_eq_true rfl) | decide | (exact ⟨by decide, rfl, by decide⟩)) (by first | assumption | rfl | (exact Or.inl rfl) | (exact Or.inr rfl) | omega | (exact Nat.le_of_ble_eq_true rfl) | decide | (exact ⟨by decide, rfl, by decide⟩)) (by first | assumption | rfl | (exact Or.inl rfl) | (exact Or.inr rfl) | omega | (exact Nat.le_of_ble_eq_true rfl) | decide | (exact ⟨by decide, rfl, by decide⟩)) (by first | assumption | rfl | (exact Or.inl rfl) | (exact Or.inr rfl) | omega | (exact Nat.le_of_ble_eq_true rfl) | decide | (exact ⟨by decide, rfl, by decide⟩)) (by first | assumption | rfl | (exact Or.inl rfl) | (exact Or.inr rfl) | omega | (exact Nat.le_of_ble_eq_true rfl) | decide | (exact ⟨by decide, rfl, by decide⟩)) (by first | assumption | rfl | (exact Or.inl rfl) | (exact Or.inr rfl) | omega | (exact Nat.le_of_ble_eq_true rfl) | decide | (exact ⟨by decide, rfl, by decide⟩)) (by first | assumption | rfl | (exact Or.inl rfl) | (exact Or.inr rfl) | omega | (exact Nat.le_of_ble_eq_true rfl) | decide | (exact ⟨by decide, rfl, by decide⟩)) (by first | assumption | rfl | (exact Or.inl rfl) | (exact Or.inr rfl) | omega | (exact Nat.le_of_ble_eq_true rfl) | decide | (exact ⟨by decide, rfl, by decide⟩)) ?_ ?_
    · intro z
      exact absurd z e
    · intro _
      refine b_116_18 _ _ _ (mi_tq_ok (ce := 14) (by decide +kernel) (by omega) (by omega)) ?_
      exact k
theorem sc_step {j w : Int32} (hP : mp_P n sl f) (k1 : ¬ mp_r w 0 2 → Q (.inr n) (n + 1, sl + 6, va_up f n (.inr (15, [])))) (k2 : mp_r w 0 2 → Q (.inr n) (n + 1, sl + 6, va_up f n (.inr (14, [])))) : mi_W d 132 0 (mi_en 3 [.ref 0, .int j, .int w]) [] (n, sl, f) Q := by
  obtain ⟨⟨hn, hn2, hs⟩, hP⟩ := hP
  have q0 : f 0 = .inr (0, [.ref 1, .ref 3, .ref 15, .ref 32, .ref 35, .ref 41, .ref 54, .ref 497, .ref 501, .int 0]) := (hP 0 (by omega)).trans mp_q0
  have q54 : f 54 = .inr (11, [.ref 3, .ref 67, .ref 496, .ref 55, .ref 61, .ref 62, .ref 63, .ref 64, .ref 65, .ref 66, .int 0, .int 0]) := (hP 54 (by omega)).trans mp_q54
  refine b_132_0 _ _ _ ?_ ?_
  · intro e
    refine b_132_9 _ _ _ (mi_tq_ok (ce := 15) (by decide +kernel) (by omega) (by omega)) ?_
    exact k1 (fun z => z.1 e)
  · intro e
    refine b_132_4 _ _ _ ?_ ?_
    · intro e2
      have hr : mp_r w 0 2 := ⟨e, Int32.not_lt.mpr e2⟩
      refine b_132_19 _ _ _ ?_ ?_
      · intro _
        refine b_132_34 _ _ _ (mi_tq_ok (ce := 14) (by decide +kernel) (by omega) (by omega)) ?_
        exact k2 hr
      · intro e3
        refine b_132_23 _ _ _ (by first | assumption | rfl | (exact Or.inl rfl) | (exact Or.inr rfl) | omega | (exact Nat.le_of_ble_eq_true rfl) | decide | (exact ⟨by decide, rfl, by decide⟩)) (by first | assumption | rfl | (exact Or.inl rfl) | (exact Or.inr rfl) | omega | (exact Nat.le_of_ble_eq_true rfl) | decide | (exact ⟨by decide, rfl, by decide⟩)) (by first | assumption | rfl | (exact Or.inl rfl) | (exact Or.inr rfl) | omega | (exact Nat.le_of_ble_eq_true rfl) | decide | (exact ⟨by decide, rfl, by decide⟩)) (by first | assumption | rfl | (exact Or.inl rfl) | (exact Or.inr rfl) | omega | (exact Nat.le_of_ble_eq_true rfl) | decide | (exact ⟨by decide, rfl, by decide⟩)) (by first | assumption | rfl | (exact Or.inl rfl) | (exact Or.inr rfl) | omega | (exact Nat.le_of_ble_eq_true rfl) | decide | (exact ⟨by decide, rfl, by decide⟩)) (by first | assumption | rfl | (exact Or.inl rfl) | (exact Or.inr rfl) | omega | (exact Nat.le_of_ble_eq_true rfl) | decide | (exact ⟨by decide, rfl, by decide⟩)) ?_ ?_
        · intro z
          exact absurd z e3
        · intro _
          refine b_132_34 _ _ _ (mi_tq_ok (ce := 14) (by decide +kernel) (by omega) (by omega)) ?_
          exact k2 hr
    · intro e2
      refine b_132_9 _ _ _ (mi_tq_ok (ce := 15) (by decide +kernel) (by omega) (by omega)) ?_
      exact k1 (fun z => e2 (Int32.not_lt.mp z.2))
def mp_V3 (w p t : Int32) : Prop := mp_r w 0 4 ∧ mp_r p 0 7 ∧ mp_r t 0 3
theorem sc_state {w p t : Int32} (hP : mp_P n sl f) (k1 : ¬ mp_V3 w p t → Q (.inr n) (n + 1, sl + 6, va_up f n (.inr (15, [])))) (k0 : mp_V3 w p t → w = 1 → Q (.inl (some (.long 0))) (n, sl, f)) (k2 : mp_V3 w p t → ¬ w = 1 → Q (.inr n) (n + 1, sl + 6, va_up f n (.inr (16, [])))) : mi_W (d + 1) 118 0 (mi_en 4 [.ref 0, .int w, .int p, .int t]) [] (n, sl, f) Q := by
  have hP0 := hP
  obtain ⟨⟨hn, hn2, hs⟩, hP⟩ := hP
  have q0 : f 0 = .inr (0, [.ref 1, .ref 3, .ref 15, .ref 32, .ref 35, .ref 41, .ref 54, .ref 497, .ref 501, .int 0]) := (hP 0 (by omega)).trans mp_q0
  have q32 : f 32 = .inr (5, [.ref 33, .ref 34]) := (hP 32 (by omega)).trans mp_q32
  obtain ⟨g33, q33, z33⟩ : ∃ g, f 33 = .inl (3, 32, .inr (.inl g)) ∧ ∀ j, j < 32 → g j = 0 := by
    rw [hP 33 (by omega)]
    exact mp_q33
  refine b_118_0 _ _ _ ?_ ?_
  · intro e
    refine b_118_23 _ _ _ (mi_tq_ok (ce := 15) (by decide +kernel) (by omega) (by omega)) ?_
    exact k1 (fun z => z.1.1 e)
  · intro e
    refine b_118_4 _ _ _ ?_ ?_
    · intro e2
      refine b_118_23 _ _ _ (mi_tq_ok (ce := 15) (by decide +kernel) (by omega) (by omega)) ?_
      exact k1 (fun z => z.1.2 e2)
    · intro e2
      refine b_118_9 _ _ _ ?_
      refine s_isP (fun h1 => ?_) (fun h1 => ?_)
      · refine b_118_13 _ _ _ ?_ ?_
        · intro z
          exact absurd z (by decide)
        · intro _
          refine b_118_16 _ _ _ ?_
          refine s_isT (fun h2 => ?_) (fun h2 => ?_)
          · refine b_118_20 _ _ _ ?_ ?_
            · intro _
              have hv : mp_V3 w p t := ⟨⟨e, e2⟩, h1, h2⟩
              refine b_118_33 _ _ _ ?_ ?_
              · intro e3
                refine b_118_52 _ _ _ (by first | assumption | rfl | (exact Or.inl rfl) | (exact Or.inr rfl) | omega | (exact Nat.le_of_ble_eq_true rfl) | decide | (exact ⟨by decide, rfl, by decide⟩)) (by first | assumption | rfl | (exact Or.inl rfl) | (exact Or.inr rfl) | omega | (exact Nat.le_of_ble_eq_true rfl) | decide | (exact ⟨by decide, rfl, by decide⟩)) ?_
                exact sc_req hP0 (mp_cx (by decide +kernel) (k2 hv e3))
              · intro e3
                have e4 : w = 1 := Classical.not_not.mp e3
                obtain ⟨⟨i, hi⟩, -⟩ := mp_ix4 h1 h2
                refine b_118_38 _ _ _ _ _ _ (by first | assumption | rfl | (exact Or.inl rfl) | (exact Or.inr rfl) | omega | (exact Nat.le_of_ble_eq_true rfl) | decide | (exact ⟨by decide, rfl, by decide⟩)) (by first | assumption | rfl | (exact Or.inl rfl) | (exact Or.inr rfl) | omega | (exact Nat.le_of_ble_eq_true rfl) | decide | (exact ⟨by decide, rfl, by decide⟩)) (by first | assumption | rfl | (exact Or.inl rfl) | (exact Or.inr rfl) | omega | (exact Nat.le_of_ble_eq_true rfl) | decide | (exact ⟨by decide, rfl, by decide⟩)) (by first | assumption | rfl | (exact Or.inl rfl) | (exact Or.inr rfl) | omega | (exact Nat.le_of_ble_eq_true rfl) | decide | (exact ⟨by decide, rfl, by decide⟩)) (by first | assumption | rfl | (exact Or.inl rfl) | (exact Or.inr rfl) | omega | (exact Nat.le_of_ble_eq_true rfl) | decide | (exact ⟨by decide, rfl, by decide⟩)) (by first | assumption | rfl | (exact Or.inl rfl) | (exact Or.inr rfl) | omega | (exact Nat.le_of_ble_eq_true rfl) | decide | (exact ⟨by decide, rfl, by decide⟩)) (by first | assumption | rfl | (exact Or.inl rfl) | (exact Or.inr rfl) | omega | (exact Nat.le_of_ble_eq_true rfl) | decide | (exact ⟨by decide, rfl, by decide⟩)) (by first | assumption | rfl | (exact Or.inl rfl) | (exact Or.inr rfl) | omega | (exact Nat.le_of_ble_eq_true rfl) | decide | (exact ⟨by decide, rfl, by decide⟩)) (by first | assumption | rfl | (exact Or.inl rfl) | (exact Or.inr rfl) | omega | (exact Nat.le_of_ble_eq_true rfl) | decide | (exact ⟨by decide, rfl, by decide⟩)) ?_
                rw [z33 i hi.2.2]
                exact k0 hv e4
            · intro z
              exact absurd (by decide) z
          · refine b_118_20 _ _ _ ?_ ?_
            · intro z
              exact absurd rfl z
            · intro _
              refine b_118_23 _ _ _ (mi_tq_ok (ce := 15) (by decide +kernel) (by omega) (by omega)) ?_
              exact k1 (fun z => h2 z.2.2)
      · refine b_118_13 _ _ _ ?_ ?_
        · intro _
          refine b_118_23 _ _ _ (mi_tq_ok (ce := 15) (by decide +kernel) (by omega) (by omega)) ?_
          exact k1 (fun z => h1 z.2.1)
        · intro z
          exact absurd rfl z
theorem mp_11 {w : Int32} (h : mp_r w 0 10) : w = 0 ∨ w = 1 ∨ w = 2 ∨ w = 3 ∨ w = 4 ∨ w = 5 ∨ w = 6 ∨ w = 7 ∨ w = 8 ∨ w = 9 ∨ w = 10 := by
  unfold mp_r at h
  rw [Int32.lt_iff_toInt_lt, Int32.lt_iff_toInt_lt, show (0 : Int32).toInt = 0 from rfl, show (10 : Int32).toInt = 10 from rfl] at h
  simp only [← Int32.toInt_inj, show (0 : Int32).toInt = 0 from rfl, show (1 : Int32).toInt = 1 from rfl, show (2 : Int32).toInt = 2 from rfl, show (3 : Int32).toInt = 3 from rfl, show (4 : Int32).toInt = 4 from rfl, show (5 : Int32).toInt = 5 from rfl, show (6 : Int32).toInt = 6 from rfl, show (7 : Int32).toInt = 7 from rfl, show (8 : Int32).toInt = 8 from rfl, show (9 : Int32).toInt = 9 from rfl, show (10 : Int32).toInt = 10 from rfl]
  omega
theorem sc_count0 (hP : mp_P n sl f) (k : Q (.inl (some (.int (-1)))) (n, sl, f)) : mi_W (d + 1) 134 80 [some (.ref 0), some (.int 0)] [] (n, sl, f) Q := by
  obtain ⟨⟨hn, hn2, hs⟩, hP⟩ := hP
  have q0 : f 0 = .inr (0, [.ref 1, .ref 3, .ref 15, .ref 32, .ref 35, .ref 41, .ref 54, .ref 497, .ref 501, .int 0]) := (hP 0 (by omega)).trans mp_q0
  refine b_134_80 _ _ _ (by first | assumption | rfl | (exact Or.inl rfl) | (exact Or.inr rfl) | omega | (exact Nat.le_of_ble_eq_true rfl) | decide | (exact ⟨by decide, rfl, by decide⟩)) (by first | assumption | rfl | (exact Or.inl rfl) | (exact Or.inr rfl) | omega | (exact Nat.le_of_ble_eq_true rfl) | decide | (exact ⟨by decide, rfl, by decide⟩)) (by first | assumption | rfl | (exact Or.inl rfl) | (exact Or.inr rfl) | omega | (exact Nat.le_of_ble_eq_true rfl) | decide | (exact ⟨by decide, rfl, by decide⟩)) ?_ ?_
  · intro _
    refine b_134_97 _ _ _ ?_
    refine b_134_98 _ _ _ ?_
    exact k
  · intro z
    exact absurd rfl z
theorem sc_countd {w : Int32} (hP : mp_P n sl f) (k : Q (.inl (some (.int 0))) (n, sl, f)) : mi_W (d + 1) 134 145 [some (.ref 0), some (.int w)] [] (n, sl, f) Q := by
  obtain ⟨⟨hn, hn2, hs⟩, hP⟩ := hP
  have q0 : f 0 = .inr (0, [.ref 1, .ref 3, .ref 15, .ref 32, .ref 35, .ref 41, .ref 54, .ref 497, .ref 501, .int 0]) := (hP 0 (by omega)).trans mp_q0
  refine b_134_145 _ _ _ (by first | assumption | rfl | (exact Or.inl rfl) | (exact Or.inr rfl) | omega | (exact Nat.le_of_ble_eq_true rfl) | decide | (exact ⟨by decide, rfl, by decide⟩)) (by first | assumption | rfl | (exact Or.inl rfl) | (exact Or.inr rfl) | omega | (exact Nat.le_of_ble_eq_true rfl) | decide | (exact ⟨by decide, rfl, by decide⟩)) (by first | assumption | rfl | (exact Or.inl rfl) | (exact Or.inr rfl) | omega | (exact Nat.le_of_ble_eq_true rfl) | decide | (exact ⟨by decide, rfl, by decide⟩)) ?_ ?_
  · intro _
    refine b_134_160 _ _ _ ?_
    refine b_134_161 _ _ _ ?_
    exact k
  · intro z
    exact absurd rfl z
theorem sc_count {w : Int32} (hP : mp_P n sl f) (k1 : ¬ mp_r w 0 10 → Q (.inr n) (n + 1, sl + 6, va_up f n (.inr (15, [])))) (k0 : mp_r w 0 10 → Q (.inl (some (.int (if w = 0 then -1 else 0)))) (n, sl, f)) : mi_W (d + 1) 134 0 (mi_en 2 [.ref 0, .int w]) [] (n, sl, f) Q := by
  have hP0 := hP
  obtain ⟨⟨hn, hn2, hs⟩, hP⟩ := hP
  have q0 : f 0 = .inr (0, [.ref 1, .ref 3, .ref 15, .ref 32, .ref 35, .ref 41, .ref 54, .ref 497, .ref 501, .int 0]) := (hP 0 (by omega)).trans mp_q0
  have q35 : f 35 = .inr (6, [.ref 36, .ref 37, .ref 38, .ref 39, .ref 40, .int 0]) := (hP 35 (by omega)).trans mp_q35
  have q41 : f 41 = .inr (7, [.ref 3, .ref 32, .ref 53, .ref 49, .long 0, .long 0, .int 0, .ref 42]) := (hP 41 (by omega)).trans mp_q41
  have q42 : f 42 = .inr (8, [.ref 43, .ref 44, .ref 45, .ref 46, .ref 47, .ref 48, .int 0, .int 0]) := (hP 42 (by omega)).trans mp_q42
  have q54 : f 54 = .inr (11, [.ref 3, .ref 67, .ref 496, .ref 55, .ref 61, .ref 62, .ref 63, .ref 64, .ref 65, .ref 66, .int 0, .int 0]) := (hP 54 (by omega)).trans mp_q54
  refine b_134_0 _ _ _ ?_ ?_
  · intro e
    refine b_134_10 _ _ _ (mi_tq_ok (ce := 15) (by decide +kernel) (by omega) (by omega)) ?_
    exact k1 (fun z => z.1 e)
  · intro e
    refine b_134_4 _ _ _ ?_ ?_
    · intro e2
      have hr : mp_r w 0 10 := ⟨e, Int32.not_lt.mpr e2⟩
      have k0 := k0 hr
      rcases mp_11 hr with rfl | rfl | rfl | rfl | rfl | rfl | rfl | rfl | rfl | rfl | rfl
      · refine b_134_20 _ _ _ (t3 := 80) (by decide +kernel) ?_
        exact sc_count0 hP0 k0
      · refine b_134_20 _ _ _ (t3 := 145) (by decide +kernel) ?_
        exact sc_countd hP0 k0
      · refine b_134_20 _ _ _ (t3 := 145) (by decide +kernel) ?_
        exact sc_countd hP0 k0
      · refine b_134_20 _ _ _ (t3 := 145) (by decide +kernel) ?_
        exact sc_countd hP0 k0
      · refine b_134_20 _ _ _ (t3 := 145) (by decide +kernel) ?_
        exact sc_countd hP0 k0
      · refine b_134_20 _ _ _ (t3 := 145) (by decide +kernel) ?_
        exact sc_countd hP0 k0
      · refine b_134_20 _ _ _ (t3 := 99) (by decide +kernel) ?_
        refine b_134_99 _ _ _ (by first | assumption | rfl | (exact Or.inl rfl) | (exact Or.inr rfl) | omega | (exact Nat.le_of_ble_eq_true rfl) | decide | (exact ⟨by decide, rfl, by decide⟩)) (by first | assumption | rfl | (exact Or.inl rfl) | (exact Or.inr rfl) | omega | (exact Nat.le_of_ble_eq_true rfl) | decide | (exact ⟨by decide, rfl, by decide⟩)) (by first | assumption | rfl | (exact Or.inl rfl) | (exact Or.inr rfl) | omega | (exact Nat.le_of_ble_eq_true rfl) | decide | (exact ⟨by decide, rfl, by decide⟩)) (by first | assumption | rfl | (exact Or.inl rfl) | (exact Or.inr rfl) | omega | (exact Nat.le_of_ble_eq_true rfl) | decide | (exact ⟨by decide, rfl, by decide⟩)) (by first | assumption | rfl | (exact Or.inl rfl) | (exact Or.inr rfl) | omega | (exact Nat.le_of_ble_eq_true rfl) | decide | (exact ⟨by decide, rfl, by decide⟩)) (by first | assumption | rfl | (exact Or.inl rfl) | (exact Or.inr rfl) | omega | (exact Nat.le_of_ble_eq_true rfl) | decide | (exact ⟨by decide, rfl, by decide⟩)) ?_
        exact k0
      · refine b_134_20 _ _ _ (t3 := 107) (by decide +kernel) ?_
        refine b_134_107 _ _ _ (by first | assumption | rfl | (exact Or.inl rfl) | (exact Or.inr rfl) | omega | (exact Nat.le_of_ble_eq_true rfl) | decide | (exact ⟨by decide, rfl, by decide⟩)) (by first | assumption | rfl | (exact Or.inl rfl) | (exact Or.inr rfl) | omega | (exact Nat.le_of_ble_eq_true rfl) | decide | (exact ⟨by decide, rfl, by decide⟩)) (by first | assumption | rfl | (exact Or.inl rfl) | (exact Or.inr rfl) | omega | (exact Nat.le_of_ble_eq_true rfl) | decide | (exact ⟨by decide, rfl, by decide⟩)) (by first | assumption | rfl | (exact Or.inl rfl) | (exact Or.inr rfl) | omega | (exact Nat.le_of_ble_eq_true rfl) | decide | (exact ⟨by decide, rfl, by decide⟩)) (by first | assumption | rfl | (exact Or.inl rfl) | (exact Or.inr rfl) | omega | (exact Nat.le_of_ble_eq_true rfl) | decide | (exact ⟨by decide, rfl, by decide⟩)) (by first | assumption | rfl | (exact Or.inl rfl) | (exact Or.inr rfl) | omega | (exact Nat.le_of_ble_eq_true rfl) | decide | (exact ⟨by decide, rfl, by decide⟩)) (by first | assumption | rfl | (exact Or.inl rfl) | (exact Or.inr rfl) | omega | (exact Nat.le_of_ble_eq_true rfl) | decide | (exact ⟨by decide, rfl, by decide⟩)) (by first | assumption | rfl | (exact Or.inl rfl) | (exact Or.inr rfl) | omega | (exact Nat.le_of_ble_eq_true rfl) | decide | (exact ⟨by decide, rfl, by decide⟩)) (by first | assumption | rfl | (exact Or.inl rfl) | (exact Or.inr rfl) | omega | (exact Nat.le_of_ble_eq_true rfl) | decide | (exact ⟨by decide, rfl, by decide⟩)) ?_
        exact k0
      · refine b_134_20 _ _ _ (t3 := 118) (by decide +kernel) ?_
        refine b_134_118 _ _ _ (by first | assumption | rfl | (exact Or.inl rfl) | (exact Or.inr rfl) | omega | (exact Nat.le_of_ble_eq_true rfl) | decide | (exact ⟨by decide, rfl, by decide⟩)) (by first | assumption | rfl | (exact Or.inl rfl) | (exact Or.inr rfl) | omega | (exact Nat.le_of_ble_eq_true rfl) | decide | (exact ⟨by decide, rfl, by decide⟩)) (by first | assumption | rfl | (exact Or.inl rfl) | (exact Or.inr rfl) | omega | (exact Nat.le_of_ble_eq_true rfl) | decide | (exact ⟨by decide, rfl, by decide⟩)) (by first | assumption | rfl | (exact Or.inl rfl) | (exact Or.inr rfl) | omega | (exact Nat.le_of_ble_eq_true rfl) | decide | (exact ⟨by decide, rfl, by decide⟩)) (by first | assumption | rfl | (exact Or.inl rfl) | (exact Or.inr rfl) | omega | (exact Nat.le_of_ble_eq_true rfl) | decide | (exact ⟨by decide, rfl, by decide⟩)) (by first | assumption | rfl | (exact Or.inl rfl) | (exact Or.inr rfl) | omega | (exact Nat.le_of_ble_eq_true rfl) | decide | (exact ⟨by decide, rfl, by decide⟩)) (by first | assumption | rfl | (exact Or.inl rfl) | (exact Or.inr rfl) | omega | (exact Nat.le_of_ble_eq_true rfl) | decide | (exact ⟨by decide, rfl, by decide⟩)) (by first | assumption | rfl | (exact Or.inl rfl) | (exact Or.inr rfl) | omega | (exact Nat.le_of_ble_eq_true rfl) | decide | (exact ⟨by decide, rfl, by decide⟩)) (by first | assumption | rfl | (exact Or.inl rfl) | (exact Or.inr rfl) | omega | (exact Nat.le_of_ble_eq_true rfl) | decide | (exact ⟨by decide, rfl, by decide⟩)) ?_
        exact k0
      · refine b_134_20 _ _ _ (t3 := 129) (by decide +kernel) ?_
        refine b_134_129 _ _ _ (by first | assumption | rfl | (exact Or.inl rfl) | (exact Or.inr rfl) | omega | (exact Nat.le_of_ble_eq_true rfl) | decide | (exact ⟨by decide, rfl, by decide⟩)) (by first | assumption | rfl | (exact Or.inl rfl) | (exact Or.inr rfl) | omega | (exact Nat.le_of_ble_eq_true rfl) | decide | (exact ⟨by decide, rfl, by decide⟩)) (by first | assumption | rfl | (exact Or.inl rfl) | (exact Or.inr rfl) | omega | (exact Nat.le_of_ble_eq_true rfl) | decide | (exact ⟨by decide, rfl, by decide⟩)) (by first | assumption | rfl | (exact Or.inl rfl) | (exact Or.inr rfl) | omega | (exact Nat.le_of_ble_eq_true rfl) | decide | (exact ⟨by decide, rfl, by decide⟩)) (by first | assumption | rfl | (exact Or.inl rfl) | (exact Or.inr rfl) | omega | (exact Nat.le_of_ble_eq_true rfl) | decide | (exact ⟨by decide, rfl, by decide⟩)) (by first | assumption | rfl | (exact Or.inl rfl) | (exact Or.inr rfl) | omega | (exact Nat.le_of_ble_eq_true rfl) | decide | (exact ⟨by decide, rfl, by decide⟩)) ?_
        exact k0
      · refine b_134_20 _ _ _ (t3 := 137) (by decide +kernel) ?_
        refine b_134_137 _ _ _ (by first | assumption | rfl | (exact Or.inl rfl) | (exact Or.inr rfl) | omega | (exact Nat.le_of_ble_eq_true rfl) | decide | (exact ⟨by decide, rfl, by decide⟩)) (by first | assumption | rfl | (exact Or.inl rfl) | (exact Or.inr rfl) | omega | (exact Nat.le_of_ble_eq_true rfl) | decide | (exact ⟨by decide, rfl, by decide⟩)) (by first | assumption | rfl | (exact Or.inl rfl) | (exact Or.inr rfl) | omega | (exact Nat.le_of_ble_eq_true rfl) | decide | (exact ⟨by decide, rfl, by decide⟩)) (by first | assumption | rfl | (exact Or.inl rfl) | (exact Or.inr rfl) | omega | (exact Nat.le_of_ble_eq_true rfl) | decide | (exact ⟨by decide, rfl, by decide⟩)) (by first | assumption | rfl | (exact Or.inl rfl) | (exact Or.inr rfl) | omega | (exact Nat.le_of_ble_eq_true rfl) | decide | (exact ⟨by decide, rfl, by decide⟩)) (by first | assumption | rfl | (exact Or.inl rfl) | (exact Or.inr rfl) | omega | (exact Nat.le_of_ble_eq_true rfl) | decide | (exact ⟨by decide, rfl, by decide⟩)) ?_
        exact k0
    · intro e2
      refine b_134_10 _ _ _ (mi_tq_ok (ce := 15) (by decide +kernel) (by omega) (by omega)) ?_
      exact k1 (fun z => e2 (Int32.not_lt.mp z.2))
end
