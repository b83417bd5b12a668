/-! the law's own methods, a call each on a fresh object; what lies in the heap then -/
def mp_S (c : mi_C) (v : Int64) (h : mi_H) : Prop := (575 ≤ h.1 ∧ h.1 ≤ 590 ∧ h.2.1 ≤ 102100) ∧ (∀ q, 505 ≤ q → q < 574 → h.2.2 q = (mp_hh mp_r2).2.2 q) ∧ h.2.2 mi_SC = c ∧ ∃ g, h.2.2 574 = .inl (3, 1, .inr (.inl g)) ∧ g 0 = v
def mp_I (c : mi_C) (n sl : Nat) (f : Nat → mi_C) : Prop := mp_P n sl f ∧ f mi_SC = c ∧ ∃ g, f 574 = .inl (3, 1, .inr (.inl g))
theorem mp_scn : mi_SC = 1099511627776 := rfl
theorem mp_S_ret {c : mi_C} {n sl : Nat} {f f' : Nat → mi_C} {g : Nat → Int64} {v : Int64} (hI : mp_I c n sl f) (hf : ∀ q, 505 ≤ q → f' q = f q) : mp_S c v (n, sl, va_up f' 574 (.inl (3, 1, .inr (.inl (vp_updL g (Int32.toNatClampNeg 0) v))))) := by
  obtain ⟨⟨⟨hn, hn2, hs⟩, hP⟩, hc, -⟩ := hI
  have e := mp_scn
  refine ⟨⟨hn, by show n ≤ 590; omega, by show sl ≤ 102100; omega⟩, fun q h1 h2 => ?_, ?_, ⟨_, by simp only [va_up]; rfl, rfl⟩⟩
  · simp only [va_up]
    rw [if_neg (by omega), hf q h1, hP q h2]
  · simp only [va_up]
    rw [if_neg (by omega), hf _ (by omega)]
    exact hc
theorem mp_S_thr {c : mi_C} {n sl : Nat} {f : Nat → mi_C} {x : mi_C} (hI : mp_I c n sl f) : ∃ v, mp_S c v (n + 1, sl + 6, va_up f n x) := by
  obtain ⟨⟨⟨hn, hn2, hs⟩, hP⟩, hc, g, ho⟩ := hI
  have e := mp_scn
  refine ⟨g 0, ⟨by show 575 ≤ n + 1; omega, by show n + 1 ≤ 590; omega, by show sl + 6 ≤ 102100; omega⟩, fun q h1 h2 => ?_, ?_, ⟨g, ?_, rfl⟩⟩
  · simp only [va_up]
    rw [if_neg (by omega), hP q h2]
  · simp only [va_up]
    rw [if_neg (by omega)]
    exact hc
  · simp only [va_up]
    rw [if_neg (by omega)]
    exact ho
section
variable {d n sl : Nat} {f : Nat → mi_C} {c0 : mi_C} {Q : (Option Value ⊕ Nat) → mi_H → Prop}
theorem sw_feed {a : Int32} {b : Int32} {c : Int32} {e : Int32} {v : Int32}  (hI : mp_I c0 n sl f) (k0 : ∀ h', mp_S c0 ((20 : Int32).toInt64) h' → Q (.inl (some (.int 0))) h') : mi_W (d + 2) 13 0 (mi_en 8 [.ref 0, .int a, .int b, .int c, .int e, .int v, .ref 574]) [] (n, sl, f) Q := by
  have hI0 := hI
  obtain ⟨⟨⟨hn, hn2, hs⟩, hP⟩, hc, g0, ho⟩ := hI
  have q0 : f 0 = .inr (0, [.ref 1, .ref 3, .ref 15, .ref 32, .ref 35, .ref 41, .ref 54, .ref 497, .ref 501, .int 0]) := (hP 0 (by omega)).trans mp_q0
  refine b_13_0 _ _ _ (by first | assumption | rfl | (exact Or.inl rfl) | (exact Or.inr rfl) | omega | (exact Nat.le_of_ble_eq_true rfl) | decide | (exact ⟨by decide, rfl, by decide⟩)) (by first | assumption | rfl | (exact Or.inl rfl) | (exact Or.inr rfl) | omega | (exact Nat.le_of_ble_eq_true rfl) | decide | (exact ⟨by decide, rfl, by decide⟩)) ?_
  refine sc_feed  ⟨⟨hn, hn2, hs⟩, hP⟩ (fun f' hf => ?_)
  · have q574 : f' 574 = .inl (3, 1, .inr (.inl g0)) := (hf 574 (by decide)).trans ho
    refine b_13_14 _ _ _ _ _ _ (by first | assumption | rfl | (exact Or.inl rfl) | (exact Or.inr rfl) | omega | (exact Nat.le_of_ble_eq_true rfl) | decide | (exact ⟨by decide, rfl, by decide⟩)) (by first | assumption | rfl | (exact Or.inl rfl) | (exact Or.inr rfl) | omega | (exact Nat.le_of_ble_eq_true rfl) | decide | (exact ⟨by decide, rfl, by decide⟩)) (by first | assumption | rfl | (exact Or.inl rfl) | (exact Or.inr rfl) | omega | (exact Nat.le_of_ble_eq_true rfl) | decide | (exact ⟨by decide, rfl, by decide⟩)) ?_
    refine b_13_23 _ _ _ ?_
    exact k0  _ (mp_S_ret hI0 hf)
theorem sw_end {l : Int32} (hl : ¬ l = 0) (hI : mp_I c0 n sl f) (k0 : ∀ v h', mp_S c0 v h' → Q (.inl (some (.int 1))) h') : mi_W (d + 2) 16 0 (mi_en 4 [.ref 0, .int l, .ref 574]) [] (n, sl, f) Q := by
  have hI0 := hI
  obtain ⟨⟨⟨hn, hn2, hs⟩, hP⟩, hc, g0, ho⟩ := hI
  have q0 : f 0 = .inr (0, [.ref 1, .ref 3, .ref 15, .ref 32, .ref 35, .ref 41, .ref 54, .ref 497, .ref 501, .int 0]) := (hP 0 (by omega)).trans mp_q0
  refine b_16_0 _ _ _ (by first | assumption | rfl | (exact Or.inl rfl) | (exact Or.inr rfl) | omega | (exact Nat.le_of_ble_eq_true rfl) | decide | (exact ⟨by decide, rfl, by decide⟩)) (by first | assumption | rfl | (exact Or.inl rfl) | (exact Or.inr rfl) | omega | (exact Nat.le_of_ble_eq_true rfl) | decide | (exact ⟨by decide, rfl, by decide⟩)) ?_
  refine sc_end hl ⟨⟨hn, hn2, hs⟩, hP⟩ ?_
  · refine mp_ch (hp := 12) (by decide +kernel) ?_
    refine b_16_12 _ _ _ ?_
    obtain ⟨v0, hS⟩ := mp_S_thr (x := .inr (14, [])) hI0
    exact k0  v0 _ hS
theorem sw_wallet {p : Int32} {t : Int32} {a : Int64}  (hI : mp_I c0 n sl f) (k0 : mp_V p t a → ∀ h', mp_S c0 (0) h' → Q (.inl (some (.int 0))) h') (k1 : ¬ mp_V p t a → ∀ v h', mp_S c0 v h' → Q (.inl (some (.int 1))) h') : mi_W (d + 2) 58 0 (mi_en 7 [.ref 0, .int p, .int t, .long a, .ref 574]) [] (n, sl, f) Q := by
  have hI0 := hI
  obtain ⟨⟨⟨hn, hn2, hs⟩, hP⟩, hc, g0, ho⟩ := hI
  have q0 : f 0 = .inr (0, [.ref 1, .ref 3, .ref 15, .ref 32, .ref 35, .ref 41, .ref 54, .ref 497, .ref 501, .int 0]) := (hP 0 (by omega)).trans mp_q0
  refine b_58_0 _ _ _ (by first | assumption | rfl | (exact Or.inl rfl) | (exact Or.inr rfl) | omega | (exact Nat.le_of_ble_eq_true rfl) | decide | (exact ⟨by decide, rfl, by decide⟩)) (by first | assumption | rfl | (exact Or.inl rfl) | (exact Or.inr rfl) | omega | (exact Nat.le_of_ble_eq_true rfl) | decide | (exact ⟨by decide, rfl, by decide⟩)) ?_
  refine sc_wallet  ⟨⟨hn, hn2, hs⟩, hP⟩ (fun hv f' hf => ?_) (fun hv => ?_)
  · have q574 : f' 574 = .inl (3, 1, .inr (.inl g0)) := (hf 574 (by decide)).trans ho
    refine b_58_10 _ _ _ _ _ _ (by first | assumption | rfl | (exact Or.inl rfl) | (exact Or.inr rfl) | omega | (exact Nat.le_of_ble_eq_true rfl) | decide | (exact ⟨by decide, rfl, by decide⟩)) (by first | assumption | rfl | (exact Or.inl rfl) | (exact Or.inr rfl) | omega | (exact Nat.le_of_ble_eq_true rfl) | decide | (exact ⟨by decide, rfl, by decide⟩)) (by first | assumption | rfl | (exact Or.inl rfl) | (exact Or.inr rfl) | omega | (exact Nat.le_of_ble_eq_true rfl) | decide | (exact ⟨by decide, rfl, by decide⟩)) ?_
    refine b_58_18 _ _ _ ?_
    exact k0 hv _ (mp_S_ret hI0 hf)
  · refine mp_ch (hp := 14) (by decide +kernel) ?_
    refine b_58_14 _ _ _ ?_
    obtain ⟨v0, hS⟩ := mp_S_thr (x := .inr (15, [])) hI0
    exact k1 hv v0 _ hS
theorem sw_deposit {a : Int32} {p : Int32} {t : Int32} {v : Int64}  (hI : mp_I c0 n sl f) (k0 : (mp_r a 0 7 ∧ mp_r p 0 7 ∧ mp_r t 0 3) → ∀ h', mp_S c0 ((1 : Int32).toInt64) h' → Q (.inl (some (.int 0))) h') (k1 : ¬ (mp_r a 0 7 ∧ mp_r p 0 7 ∧ mp_r t 0 3) → ∀ v h', mp_S c0 v h' → Q (.inl (some (.int 1))) h') : mi_W (d + 2) 62 0 (mi_en 8 [.ref 0, .int a, .int p, .int t, .long v, .ref 574]) [] (n, sl, f) Q := by
  have hI0 := hI
  obtain ⟨⟨⟨hn, hn2, hs⟩, hP⟩, hc, g0, ho⟩ := hI
  have q0 : f 0 = .inr (0, [.ref 1, .ref 3, .ref 15, .ref 32, .ref 35, .ref 41, .ref 54, .ref 497, .ref 501, .int 0]) := (hP 0 (by omega)).trans mp_q0
  refine b_62_0 _ _ _ (by first | assumption | rfl | (exact Or.inl rfl) | (exact Or.inr rfl) | omega | (exact Nat.le_of_ble_eq_true rfl) | decide | (exact ⟨by decide, rfl, by decide⟩)) (by first | assumption | rfl | (exact Or.inl rfl) | (exact Or.inr rfl) | omega | (exact Nat.le_of_ble_eq_true rfl) | decide | (exact ⟨by decide, rfl, by decide⟩)) ?_
  refine sc_deposit  ⟨⟨hn, hn2, hs⟩, hP⟩ (fun hv f' hf => ?_) (fun hv => ?_)
  · have q574 : f' 574 = .inl (3, 1, .inr (.inl g0)) := (hf 574 (by decide)).trans ho
    refine b_62_12 _ _ _ _ _ _ (by first | assumption | rfl | (exact Or.inl rfl) | (exact Or.inr rfl) | omega | (exact Nat.le_of_ble_eq_true rfl) | decide | (exact ⟨by decide, rfl, by decide⟩)) (by first | assumption | rfl | (exact Or.inl rfl) | (exact Or.inr rfl) | omega | (exact Nat.le_of_ble_eq_true rfl) | decide | (exact ⟨by decide, rfl, by decide⟩)) (by first | assumption | rfl | (exact Or.inl rfl) | (exact Or.inr rfl) | omega | (exact Nat.le_of_ble_eq_true rfl) | decide | (exact ⟨by decide, rfl, by decide⟩)) ?_
    refine b_62_25 _ _ _ ?_
    exact k0 hv _ (mp_S_ret hI0 hf)
  · refine mp_ch (hp := 17) (by decide +kernel) ?_
    refine b_62_17 _ _ _ ?_
    obtain ⟨v0, hS⟩ := mp_S_thr (x := .inr (15, [])) hI0
    exact k1 hv v0 _ hS
theorem sw_choose {p : Int32} {v : Int64}  (hI : mp_I c0 n sl f) (k0 : mp_r p 0 7 → ∀ h', mp_S c0 ((1 : Int32).toInt64) h' → Q (.inl (some (.int 0))) h') (k1 : ¬ mp_r p 0 7 → ∀ v h', mp_S c0 v h' → Q (.inl (some (.int 1))) h') : mi_W (d + 2) 66 0 (mi_en 6 [.ref 0, .int p, .long v, .ref 574]) [] (n, sl, f) Q := by
  have hI0 := hI
  obtain ⟨⟨⟨hn, hn2, hs⟩, hP⟩, hc, g0, ho⟩ := hI
  have q0 : f 0 = .inr (0, [.ref 1, .ref 3, .ref 15, .ref 32, .ref 35, .ref 41, .ref 54, .ref 497, .ref 501, .int 0]) := (hP 0 (by omega)).trans mp_q0
  refine b_66_0 _ _ _ (by first | assumption | rfl | (exact Or.inl rfl) | (exact Or.inr rfl) | omega | (exact Nat.le_of_ble_eq_true rfl) | decide | (exact ⟨by decide, rfl, by decide⟩)) (by first | assumption | rfl | (exact Or.inl rfl) | (exact Or.inr rfl) | omega | (exact Nat.le_of_ble_eq_true rfl) | decide | (exact ⟨by decide, rfl, by decide⟩)) ?_
  refine sc_choose  ⟨⟨hn, hn2, hs⟩, hP⟩ (fun hv f' hf => ?_) (fun hv => ?_)
  · have q574 : f' 574 = .inl (3, 1, .inr (.inl g0)) := (hf 574 (by decide)).trans ho
    refine b_66_9 _ _ _ _ _ _ (by first | assumption | rfl | (exact Or.inl rfl) | (exact Or.inr rfl) | omega | (exact Nat.le_of_ble_eq_true rfl) | decide | (exact ⟨by decide, rfl, by decide⟩)) (by first | assumption | rfl | (exact Or.inl rfl) | (exact Or.inr rfl) | omega | (exact Nat.le_of_ble_eq_true rfl) | decide | (exact ⟨by decide, rfl, by decide⟩)) (by first | assumption | rfl | (exact Or.inl rfl) | (exact Or.inr rfl) | omega | (exact Nat.le_of_ble_eq_true rfl) | decide | (exact ⟨by decide, rfl, by decide⟩)) ?_
    refine b_66_22 _ _ _ ?_
    exact k0 hv _ (mp_S_ret hI0 hf)
  · refine mp_ch (hp := 14) (by decide +kernel) ?_
    refine b_66_14 _ _ _ ?_
    obtain ⟨v0, hS⟩ := mp_S_thr (x := .inr (15, [])) hI0
    exact k1 hv v0 _ hS
theorem sw_remind   (hI : mp_I c0 n sl f) (k0 : ∀ h', mp_S c0 ((1 : Int32).toInt64) h' → Q (.inl (some (.int 0))) h') : mi_W (d + 2) 68 0 (mi_en 3 [.ref 0, .ref 574]) [] (n, sl, f) Q := by
  have hI0 := hI
  obtain ⟨⟨⟨hn, hn2, hs⟩, hP⟩, hc, g0, ho⟩ := hI
  have q0 : f 0 = .inr (0, [.ref 1, .ref 3, .ref 15, .ref 32, .ref 35, .ref 41, .ref 54, .ref 497, .ref 501, .int 0]) := (hP 0 (by omega)).trans mp_q0
  refine b_68_0 _ _ _ (by first | assumption | rfl | (exact Or.inl rfl) | (exact Or.inr rfl) | omega | (exact Nat.le_of_ble_eq_true rfl) | decide | (exact ⟨by decide, rfl, by decide⟩)) (by first | assumption | rfl | (exact Or.inl rfl) | (exact Or.inr rfl) | omega | (exact Nat.le_of_ble_eq_true rfl) | decide | (exact ⟨by decide, rfl, by decide⟩)) ?_
  refine sc_remind  ⟨⟨hn, hn2, hs⟩, hP⟩ (fun f' hf => ?_)
  · have q574 : f' 574 = .inl (3, 1, .inr (.inl g0)) := (hf 574 (by decide)).trans ho
    refine b_68_6 _ _ _ _ _ _ (by first | assumption | rfl | (exact Or.inl rfl) | (exact Or.inr rfl) | omega | (exact Nat.le_of_ble_eq_true rfl) | decide | (exact ⟨by decide, rfl, by decide⟩)) (by first | assumption | rfl | (exact Or.inl rfl) | (exact Or.inr rfl) | omega | (exact Nat.le_of_ble_eq_true rfl) | decide | (exact ⟨by decide, rfl, by decide⟩)) (by first | assumption | rfl | (exact Or.inl rfl) | (exact Or.inr rfl) | omega | (exact Nat.le_of_ble_eq_true rfl) | decide | (exact ⟨by decide, rfl, by decide⟩)) ?_
    refine b_68_14 _ _ _ ?_
    exact k0  _ (mp_S_ret hI0 hf)
theorem sw_apply {a : Int64} {b : Int64}  (hI : mp_I c0 n sl f) (k0 : ∀ v h', mp_S c0 v h' → Q (.inl (some (.int 1))) h') : mi_W (d + 2) 70 0 (mi_en 7 [.ref 0, .long a, .long b, .ref 574]) [] (n, sl, f) Q := by
  have hI0 := hI
  obtain ⟨⟨⟨hn, hn2, hs⟩, hP⟩, hc, g0, ho⟩ := hI
  have q0 : f 0 = .inr (0, [.ref 1, .ref 3, .ref 15, .ref 32, .ref 35, .ref 41, .ref 54, .ref 497, .ref 501, .int 0]) := (hP 0 (by omega)).trans mp_q0
  refine b_70_0 _ _ _ (by first | assumption | rfl | (exact Or.inl rfl) | (exact Or.inr rfl) | omega | (exact Nat.le_of_ble_eq_true rfl) | decide | (exact ⟨by decide, rfl, by decide⟩)) (by first | assumption | rfl | (exact Or.inl rfl) | (exact Or.inr rfl) | omega | (exact Nat.le_of_ble_eq_true rfl) | decide | (exact ⟨by decide, rfl, by decide⟩)) ?_
  refine sc_apply  ⟨⟨hn, hn2, hs⟩, hP⟩ ?_
  · refine mp_ch (hp := 14) (by decide +kernel) ?_
    refine b_70_14 _ _ _ ?_
    obtain ⟨v0, hS⟩ := mp_S_thr (x := .inr (16, [])) hI0
    exact k0  v0 _ hS
theorem sw_told {w : Int32} {j : Int32}  (hI : mp_I c0 n sl f) (k0 : ¬ mp_r w 0 4 → ∀ v h', mp_S c0 v h' → Q (.inl (some (.int 1))) h') (k1 : mp_r w 0 4 → ∀ v h', mp_S c0 v h' → Q (.inl (some (.int 2))) h') : mi_W (d + 2) 113 0 (mi_en 5 [.ref 0, .int w, .int j, .ref 574]) [] (n, sl, f) Q := by
  have hI0 := hI
  obtain ⟨⟨⟨hn, hn2, hs⟩, hP⟩, hc, g0, ho⟩ := hI
  have q0 : f 0 = .inr (0, [.ref 1, .ref 3, .ref 15, .ref 32, .ref 35, .ref 41, .ref 54, .ref 497, .ref 501, .int 0]) := (hP 0 (by omega)).trans mp_q0
  refine b_113_0 _ _ _ (by first | assumption | rfl | (exact Or.inl rfl) | (exact Or.inr rfl) | omega | (exact Nat.le_of_ble_eq_true rfl) | decide | (exact ⟨by decide, rfl, by decide⟩)) (by first | assumption | rfl | (exact Or.inl rfl) | (exact Or.inr rfl) | omega | (exact Nat.le_of_ble_eq_true rfl) | decide | (exact ⟨by decide, rfl, by decide⟩)) ?_
  refine sc_told  ⟨⟨hn, hn2, hs⟩, hP⟩ (fun hv => ?_) (fun hv => ?_)
  · refine mp_ch (hp := 13) (by decide +kernel) ?_
    refine b_113_13 _ _ _ ?_
    obtain ⟨v0, hS⟩ := mp_S_thr (x := .inr (15, [])) hI0
    exact k0 hv v0 _ hS
  · refine mp_ch (hp := 17) (by decide +kernel) ?_
    refine b_113_17 _ _ _ ?_
    obtain ⟨v0, hS⟩ := mp_S_thr (x := .inr (14, [])) hI0
    exact k1 hv v0 _ hS
theorem sw_paid {j : Int32}  (hI : mp_I c0 n sl f) (k0 : ∀ v h', mp_S c0 v h' → Q (.inl (some (.int 1))) h') : mi_W (d + 2) 115 0 (mi_en 4 [.ref 0, .int j, .ref 574]) [] (n, sl, f) Q := by
  have hI0 := hI
  obtain ⟨⟨⟨hn, hn2, hs⟩, hP⟩, hc, g0, ho⟩ := hI
  have q0 : f 0 = .inr (0, [.ref 1, .ref 3, .ref 15, .ref 32, .ref 35, .ref 41, .ref 54, .ref 497, .ref 501, .int 0]) := (hP 0 (by omega)).trans mp_q0
  refine b_115_0 _ _ _ (by first | assumption | rfl | (exact Or.inl rfl) | (exact Or.inr rfl) | omega | (exact Nat.le_of_ble_eq_true rfl) | decide | (exact ⟨by decide, rfl, by decide⟩)) (by first | assumption | rfl | (exact Or.inl rfl) | (exact Or.inr rfl) | omega | (exact Nat.le_of_ble_eq_true rfl) | decide | (exact ⟨by decide, rfl, by decide⟩)) ?_
  refine sc_paid  ⟨⟨hn, hn2, hs⟩, hP⟩ ?_
  · refine mp_ch (hp := 11) (by decide +kernel) ?_
    refine b_115_11 _ _ _ ?_
    obtain ⟨v0, hS⟩ := mp_S_thr (x := .inr (14, [])) hI0
    exact k0  v0 _ hS
theorem sw_state {w : Int32} {p : Int32} {t : Int32}  (hI : mp_I c0 n sl f) (k0 : ¬ mp_V3 w p t → ∀ v h', mp_S c0 v h' → Q (.inl (some (.int 1))) h') (k1 : (mp_V3 w p t ∧ w = 1) → ∀ h', mp_S c0 (0) h' → Q (.inl (some (.int 0))) h') (k2 : (mp_V3 w p t ∧ ¬ w = 1) → ∀ v h', mp_S c0 v h' → Q (.inl (some (.int 2))) h') : mi_W (d + 2) 117 0 (mi_en 6 [.ref 0, .int w, .int p, .int t, .ref 574]) [] (n, sl, f) Q := by
  have hI0 := hI
  obtain ⟨⟨⟨hn, hn2, hs⟩, hP⟩, hc, g0, ho⟩ := hI
  have q0 : f 0 = .inr (0, [.ref 1, .ref 3, .ref 15, .ref 32, .ref 35, .ref 41, .ref 54, .ref 497, .ref 501, .int 0]) := (hP 0 (by omega)).trans mp_q0
  refine b_117_0 _ _ _ (by first | assumption | rfl | (exact Or.inl rfl) | (exact Or.inr rfl) | omega | (exact Nat.le_of_ble_eq_true rfl) | decide | (exact ⟨by decide, rfl, by decide⟩)) (by first | assumption | rfl | (exact Or.inl rfl) | (exact Or.inr rfl) | omega | (exact Nat.le_of_ble_eq_true rfl) | decide | (exact ⟨by decide, rfl, by decide⟩)) ?_
  refine sc_state  ⟨⟨hn, hn2, hs⟩, hP⟩ (fun hv => ?_) (fun hv hw => ?_) (fun hv hw => ?_)
  · refine mp_ch (hp := 14) (by decide +kernel) ?_
    refine b_117_14 _ _ _ ?_
    obtain ⟨v0, hS⟩ := mp_S_thr (x := .inr (15, [])) hI0
    exact k0 hv v0 _ hS
  · refine b_117_10 _ _ _ _ _ _ (by first | assumption | rfl | (exact Or.inl rfl) | (exact Or.inr rfl) | omega | (exact Nat.le_of_ble_eq_true rfl) | decide | (exact ⟨by decide, rfl, by decide⟩)) (by first | assumption | rfl | (exact Or.inl rfl) | (exact Or.inr rfl) | omega | (exact Nat.le_of_ble_eq_true rfl) | decide | (exact ⟨by decide, rfl, by decide⟩)) (by first | assumption | rfl | (exact Or.inl rfl) | (exact Or.inr rfl) | omega | (exact Nat.le_of_ble_eq_true rfl) | decide | (exact ⟨by decide, rfl, by decide⟩)) ?_
    refine b_117_22 _ _ _ ?_
    exact k1 ⟨hv, hw⟩ _ (mp_S_ret hI0 (fun q _ => rfl))
  · refine mp_ch (hp := 18) (by decide +kernel) ?_
    refine b_117_18 _ _ _ ?_
    obtain ⟨v0, hS⟩ := mp_S_thr (x := .inr (16, [])) hI0
    exact k2 ⟨hv, hw⟩ v0 _ hS
theorem sw_analyse   (hI : mp_I c0 n sl f) (k0 : ∀ v h', mp_S c0 v h' → Q (.inl (some (.int 1))) h') : mi_W (d + 2) 119 0 (mi_en 3 [.ref 0, .ref 574]) [] (n, sl, f) Q := by
  have hI0 := hI
  obtain ⟨⟨⟨hn, hn2, hs⟩, hP⟩, hc, g0, ho⟩ := hI
  have q0 : f 0 = .inr (0, [.ref 1, .ref 3, .ref 15, .ref 32, .ref 35, .ref 41, .ref 54, .ref 497, .ref 501, .int 0]) := (hP 0 (by omega)).trans mp_q0
  refine b_119_0 _ _ _ (by first | assumption | rfl | (exact Or.inl rfl) | (exact Or.inr rfl) | omega | (exact Nat.le_of_ble_eq_true rfl) | decide | (exact ⟨by decide, rfl, by decide⟩)) (by first | assumption | rfl | (exact Or.inl rfl) | (exact Or.inr rfl) | omega | (exact Nat.le_of_ble_eq_true rfl) | decide | (exact ⟨by decide, rfl, by decide⟩)) ?_
  refine sc_analyse  ⟨⟨hn, hn2, hs⟩, hP⟩ ?_
  · refine mp_ch (hp := 11) (by decide +kernel) ?_
    refine b_119_11 _ _ _ ?_
    obtain ⟨v0, hS⟩ := mp_S_thr (x := .inr (16, [])) hI0
    exact k0  v0 _ hS
theorem sw_step {j : Int32} {w : Int32}  (hI : mp_I c0 n sl f) (k0 : ¬ mp_r w 0 2 → ∀ v h', mp_S c0 v h' → Q (.inl (some (.int 1))) h') (k1 : mp_r w 0 2 → ∀ v h', mp_S c0 v h' → Q (.inl (some (.int 2))) h') : mi_W (d + 2) 131 0 (mi_en 5 [.ref 0, .int j, .int w, .ref 574]) [] (n, sl, f) Q := by
  have hI0 := hI
  obtain ⟨⟨⟨hn, hn2, hs⟩, hP⟩, hc, g0, ho⟩ := hI
  have q0 : f 0 = .inr (0, [.ref 1, .ref 3, .ref 15, .ref 32, .ref 35, .ref 41, .ref 54, .ref 497, .ref 501, .int 0]) := (hP 0 (by omega)).trans mp_q0
  refine b_131_0 _ _ _ (by first | assumption | rfl | (exact Or.inl rfl) | (exact Or.inr rfl) | omega | (exact Nat.le_of_ble_eq_true rfl) | decide | (exact ⟨by decide, rfl, by decide⟩)) (by first | assumption | rfl | (exact Or.inl rfl) | (exact Or.inr rfl) | omega | (exact Nat.le_of_ble_eq_true rfl) | decide | (exact ⟨by decide, rfl, by decide⟩)) ?_
  refine sc_step  ⟨⟨hn, hn2, hs⟩, hP⟩ (fun hv => ?_) (fun hv => ?_)
  · refine mp_ch (hp := 12) (by decide +kernel) ?_
    refine b_131_12 _ _ _ ?_
    obtain ⟨v0, hS⟩ := mp_S_thr (x := .inr (15, [])) hI0
    exact k0 hv v0 _ hS
  · refine mp_ch (hp := 16) (by decide +kernel) ?_
    refine b_131_16 _ _ _ ?_
    obtain ⟨v0, hS⟩ := mp_S_thr (x := .inr (14, [])) hI0
    exact k1 hv v0 _ hS
theorem sw_count {w : Int32}  (hI : mp_I c0 n sl f) (k0 : ¬ mp_r w 0 10 → ∀ v h', mp_S c0 v h' → Q (.inl (some (.int 1))) h') (k1 : mp_r w 0 10 → ∀ h', mp_S c0 ((if w = 0 then -1 else 0 : Int32).toInt64) h' → Q (.inl (some (.int 0))) h') : mi_W (d + 2) 133 0 (mi_en 4 [.ref 0, .int w, .ref 574]) [] (n, sl, f) Q := by
  have hI0 := hI
  obtain ⟨⟨⟨hn, hn2, hs⟩, hP⟩, hc, g0, ho⟩ := hI
  have q0 : f 0 = .inr (0, [.ref 1, .ref 3, .ref 15, .ref 32, .ref 35, .ref 41, .ref 54, .ref 497, .ref 501, .int 0]) := (hP 0 (by omega)).trans mp_q0
  refine b_133_0 _ _ _ (by first | assumption | rfl | (exact Or.inl rfl) | (exact Or.inr rfl) | omega | (exact Nat.le_of_ble_eq_true rfl) | decide | (exact ⟨by decide, rfl, by decide⟩)) (by first | assumption | rfl | (exact Or.inl rfl) | (exact Or.inr rfl) | omega | (exact Nat.le_of_ble_eq_true rfl) | decide | (exact ⟨by decide, rfl, by decide⟩)) ?_
  refine sc_count  ⟨⟨hn, hn2, hs⟩, hP⟩ (fun hv => ?_) (fun hv => ?_)
  · refine mp_ch (hp := 12) (by decide +kernel) ?_
    refine b_133_12 _ _ _ ?_
    obtain ⟨v0, hS⟩ := mp_S_thr (x := .inr (15, [])) hI0
    exact k0 hv v0 _ hS
  · refine b_133_7 _ _ _ _ _ _ (by first | assumption | rfl | (exact Or.inl rfl) | (exact Or.inr rfl) | omega | (exact Nat.le_of_ble_eq_true rfl) | decide | (exact ⟨by decide, rfl, by decide⟩)) (by first | assumption | rfl | (exact Or.inl rfl) | (exact Or.inr rfl) | omega | (exact Nat.le_of_ble_eq_true rfl) | decide | (exact ⟨by decide, rfl, by decide⟩)) (by first | assumption | rfl | (exact Or.inl rfl) | (exact Or.inr rfl) | omega | (exact Nat.le_of_ble_eq_true rfl) | decide | (exact ⟨by decide, rfl, by decide⟩)) ?_
    refine b_133_15 _ _ _ ?_
    exact k1 hv _ (mp_S_ret hI0 (fun q _ => rfl))
end
