def mp_M : List Value := [.int 0, .int 0, .int 0, .int (-1), .int (-1), .ref 506, .ref 507, .ref 508, .int 0, .int 0, .int 0, .long 0, .ref 509, .ref 510, .ref 511, .ref 512, .ref 513, .ref 514, .ref 515, .ref 516, .ref 517, .int 0, .int 0, .int 0, .int 0, .int 0, .int 0, .int 0, .ref 518, .ref 519, .ref 520, .ref 521, .ref 522, .ref 523, .ref 524, .ref 525, .ref 526, .ref 527, .ref 528, .ref 529, .ref 530, .ref 531, .ref 537, .null, .long 0, .long 0, .int 0, .int 0, .int 0, .ref 543, .ref 544, .ref 545, .ref 546, .ref 547, .ref 548, .ref 549, .ref 550, .int 0, .int 0, .int 0, .ref 551, .ref 552, .ref 553, .ref 554, .ref 555, .int 0, .int 0, .ref 556, .ref 557, .ref 558, .ref 559, .ref 560, .ref 561, .int 0, .int 0, .int 0, .ref 562, .ref 563, .ref 564, .ref 565, .ref 566, .ref 567, .ref 568, .ref 569, .ref 570, .ref 571, .ref 572, .ref 573]
def mp_f0 : Nat → mi_C := va_up (mi_fo 0 (fun _ => 0)) mi_SC (.inr (0, []))
def mp_hh (r : Option ((Option Value ⊕ Nat) × mi_H)) : mi_H := match r with
  | some (_, h) => h
  | none => (0, 0, mp_f0)
theorem mp_get {r : Option ((Option Value ⊕ Nat) × mi_H)} {o : Option Value ⊕ Nat} {a b : Nat} (h : ∃ f, r = some (o, a, b, f)) : r = some (o, mp_hh r) ∧ mp_hh r = (a, b, (mp_hh r).2.2) := by
  obtain ⟨f, rfl⟩ := h
  exact ⟨rfl, rfl⟩
theorem mp_ovt {h : mi_H} {a b : Nat} {c : mi_C} (e : h = (a, b, h.2.2)) : mi_ov c h = (a, b, va_up h.2.2 mi_SC c) := by
  obtain ⟨x, y, f⟩ := h
  simp only [Prod.mk.injEq] at e
  obtain ⟨rfl, rfl, -⟩ := e
  rfl
def mp_h0 : mi_H := (1, mt_nf 0, va_up mp_f0 0 (.inr (0, mt_df 0)))
def mp_r1 : Option ((Option Value ⊕ Nat) × mi_H) := mi_x 3000000 790 0 0 (mi_en 1 [.ref 0]) [] mp_h0
def mp_h1n : mi_H := (506, 29162, va_up (mp_hh mp_r1).2.2 505 (.inr (12, mt_df 12)))
def mp_r2 : Option ((Option Value ⊕ Nat) × mi_H) := mi_x 3000000 790 136 0 (mi_en 1 [.ref 505]) [] mp_h1n
def mp_h3 : mi_H := (575, 101209, va_up (mp_hh mp_r2).2.2 574 (.inl (3, 1, .inr (.inl (fun _ => 0)))))
def mp_r4 : Option ((Option Value ⊕ Nat) × mi_H) := mi_x 3000000 780 16 0 (mi_en 4 [.ref 0, .int 0, .ref 574]) [] mp_h3
def mp_r5 : Option ((Option Value ⊕ Nat) × mi_H) := mi_x 3000000 780 141 0 (mi_en 3 [.ref 505, .int 0]) [] (mp_hh mp_r4)
def mp_io (r : Option ((Option Value ⊕ Nat) × mi_H)) (v : Option Value) (n s : Nat) : Bool := match r with
  | some (.inl w, h) => decide (w = v) && Nat.beq h.1 n && Nat.beq h.2.1 s
  | _ => false
def mp_o (f : Nat → mi_C) (p ci : Nat) (fs : List Value) : Bool := match f p with
  | .inr (c, l) => Nat.beq c ci && decide (l = fs)
  | _ => false
def mp_e (f : Nat → mi_C) (p ci : Nat) (v : Value) : Bool := match f p with
  | .inr (c, l) => Nat.beq c ci && decide (l[0]? = some v)
  | _ => false
def mp_ai (f : Nat → mi_C) (p k n : Nat) : Bool := match f p with
  | .inl (k', m, .inl _) => Nat.beq k' k && Nat.beq m n
  | _ => false
def mp_al (f : Nat → mi_C) (p n : Nat) : Bool := match f p with
  | .inl (3, m, .inr (.inl _)) => Nat.beq m n
  | _ => false
def mp_az (f : Nat → mi_C) (p n : Nat) : Bool := match f p with
  | .inl (3, m, .inr (.inl g)) => Nat.beq m n && (List.range n).all (fun j => decide (g j = 0))
  | _ => false
theorem mp_o_ok {f : Nat → mi_C} {p ci : Nat} {fs : List Value} (h : mp_o f p ci fs = true) : f p = .inr (ci, fs) := by
  unfold mp_o at h
  split at h
  · rename_i c l hq
    rw [Bool.and_eq_true] at h
    rw [hq, Nat.eq_of_beq_eq_true h.1, of_decide_eq_true h.2]
  · cases h
theorem mp_e_ok {f : Nat → mi_C} {p ci : Nat} {v : Value} (h : mp_e f p ci v = true) : ∃ fs, f p = .inr (ci, fs) ∧ fs[0]? = some v := by
  unfold mp_e at h
  split at h
  · rename_i c l hq
    rw [Bool.and_eq_true] at h
    exact ⟨l, by rw [hq, Nat.eq_of_beq_eq_true h.1], of_decide_eq_true h.2⟩
  · cases h
theorem mp_ai_ok {f : Nat → mi_C} {p k n : Nat} (h : mp_ai f p k n = true) : ∃ g, f p = .inl (k, n, .inl g) := by
  unfold mp_ai at h
  split at h
  · rename_i k' m g hq
    rw [Bool.and_eq_true] at h
    exact ⟨g, by rw [hq, Nat.eq_of_beq_eq_true h.1, Nat.eq_of_beq_eq_true h.2]⟩
  · cases h
theorem mp_al_ok {f : Nat → mi_C} {p n : Nat} (h : mp_al f p n = true) : ∃ g, f p = .inl (3, n, .inr (.inl g)) := by
  unfold mp_al at h
  split at h
  · rename_i m g hq
    exact ⟨g, by rw [hq, Nat.eq_of_beq_eq_true h]⟩
  · cases h
theorem mp_az_ok {f : Nat → mi_C} {p n : Nat} (h : mp_az f p n = true) : ∃ g, f p = .inl (3, n, .inr (.inl g)) ∧ ∀ j, j < n → g j = 0 := by
  unfold mp_az at h
  split at h
  · rename_i m g hq
    rw [Bool.and_eq_true] at h
    refine ⟨g, by rw [hq, Nat.eq_of_beq_eq_true h.1], fun j hj => ?_⟩
    have := List.all_eq_true.mp h.2 j (List.mem_range.mpr hj)
    exact of_decide_eq_true this
  · cases h
theorem mp_io_ok {r : Option ((Option Value ⊕ Nat) × mi_H)} {v : Option Value} {n s : Nat} (h : mp_io r v n s = true) : ∃ f, r = some (.inl v, n, s, f) := by
  unfold mp_io at h
  split at h
  · rename_i w h1
    rw [Bool.and_eq_true, Bool.and_eq_true] at h
    obtain ⟨⟨h2, h3⟩, h4⟩ := h
    obtain ⟨a, b, f⟩ := h1
    have e1 : a = n := Nat.eq_of_beq_eq_true h3
    have e2 : b = s := Nat.eq_of_beq_eq_true h4
    rw [of_decide_eq_true h2, e1, e2]
    exact ⟨f, rfl⟩
  · cases h
def mp_ck : List Bool := [mp_io mp_r1 none 505 29074,
  mp_io mp_r2 none 574 101208,
  mp_o (mp_hh mp_r2).2.2 0 0 [.ref 1, .ref 3, .ref 15, .ref 32, .ref 35, .ref 41, .ref 54, .ref 497, .ref 501, .int 0],
  mp_o (mp_hh mp_r2).2.2 1 1 [.ref 2, .int 0, .int 0, .int 0, .int 0, .long 0, .int 0],
  mp_o (mp_hh mp_r2).2.2 15 3 [.ref 1, .ref 3, .ref 16, .ref 20, .ref 24, .ref 28, .int (-1)],
  mp_o (mp_hh mp_r2).2.2 32 5 [.ref 33, .ref 34],
  mp_o (mp_hh mp_r2).2.2 35 6 [.ref 36, .ref 37, .ref 38, .ref 39, .ref 40, .int 0],
  mp_o (mp_hh mp_r2).2.2 41 7 [.ref 3, .ref 32, .ref 53, .ref 49, .long 0, .long 0, .int 0, .ref 42],
  mp_o (mp_hh mp_r2).2.2 42 8 [.ref 43, .ref 44, .ref 45, .ref 46, .ref 47, .ref 48, .int 0, .int 0],
  mp_o (mp_hh mp_r2).2.2 54 11 [.ref 3, .ref 67, .ref 496, .ref 55, .ref 61, .ref 62, .ref 63, .ref 64, .ref 65, .ref 66, .int 0, .int 0],
  mp_o (mp_hh mp_r2).2.2 497 9 [.int 0, .long 0, .ref 498, .ref 499, .ref 500, .int 0, .int 0],
  mp_o (mp_hh mp_r2).2.2 505 12 mp_M,
  mp_ai (mp_hh mp_r2).2.2 36 0 16,
  mp_ai (mp_hh mp_r2).2.2 37 0 16,
  mp_ai (mp_hh mp_r2).2.2 38 0 16,
  mp_ai (mp_hh mp_r2).2.2 39 0 16,
  mp_ai (mp_hh mp_r2).2.2 506 0 8200,
  mp_ai (mp_hh mp_r2).2.2 551 0 16,
  mp_ai (mp_hh mp_r2).2.2 552 0 16,
  mp_ai (mp_hh mp_r2).2.2 553 0 16,
  mp_ai (mp_hh mp_r2).2.2 554 0 16,
  mp_ai (mp_hh mp_r2).2.2 2 1 8200,
  mp_al (mp_hh mp_r2).2.2 40 16,
  mp_al (mp_hh mp_r2).2.2 555 16,
  mp_az (mp_hh mp_r2).2.2 33 32,
  mp_az (mp_hh mp_r2).2.2 550 32,
  mp_io mp_r4 (some (.int 2)) 576 101215,
  mp_e (mp_hh mp_r4).2.2 505 12 (.int 0),
  mp_io mp_r5 (some (.int 0)) 576 101215,
  mp_e (mp_hh mp_r5).2.2 505 12 (.int 2),
  mp_al (mp_hh mp_r5).2.2 574 1]
theorem mp_all : mp_ck.all id = true := by decide +kernel
theorem mp_at {k : Nat} {b : Bool} (h : mp_ck[k]? = some b) : b = true := by
  have := List.all_eq_true.mp mp_all b (List.mem_of_getElem? h)
  exact this
theorem mp_k1 : ∃ f, mp_r1 = some (.inl none, 505, 29074, f) := mp_io_ok (mp_at (k := 0) rfl)
theorem mp_k2 : ∃ f, mp_r2 = some (.inl none, 574, 101208, f) := mp_io_ok (mp_at (k := 1) rfl)
theorem mp_q0 : (mp_hh mp_r2).2.2 0 = .inr (0, [.ref 1, .ref 3, .ref 15, .ref 32, .ref 35, .ref 41, .ref 54, .ref 497, .ref 501, .int 0]) := mp_o_ok (mp_at (k := 2) rfl)
theorem mp_q1 : (mp_hh mp_r2).2.2 1 = .inr (1, [.ref 2, .int 0, .int 0, .int 0, .int 0, .long 0, .int 0]) := mp_o_ok (mp_at (k := 3) rfl)
theorem mp_q15 : (mp_hh mp_r2).2.2 15 = .inr (3, [.ref 1, .ref 3, .ref 16, .ref 20, .ref 24, .ref 28, .int (-1)]) := mp_o_ok (mp_at (k := 4) rfl)
theorem mp_q32 : (mp_hh mp_r2).2.2 32 = .inr (5, [.ref 33, .ref 34]) := mp_o_ok (mp_at (k := 5) rfl)
theorem mp_q35 : (mp_hh mp_r2).2.2 35 = .inr (6, [.ref 36, .ref 37, .ref 38, .ref 39, .ref 40, .int 0]) := mp_o_ok (mp_at (k := 6) rfl)
theorem mp_q41 : (mp_hh mp_r2).2.2 41 = .inr (7, [.ref 3, .ref 32, .ref 53, .ref 49, .long 0, .long 0, .int 0, .ref 42]) := mp_o_ok (mp_at (k := 7) rfl)
theorem mp_q42 : (mp_hh mp_r2).2.2 42 = .inr (8, [.ref 43, .ref 44, .ref 45, .ref 46, .ref 47, .ref 48, .int 0, .int 0]) := mp_o_ok (mp_at (k := 8) rfl)
theorem mp_q54 : (mp_hh mp_r2).2.2 54 = .inr (11, [.ref 3, .ref 67, .ref 496, .ref 55, .ref 61, .ref 62, .ref 63, .ref 64, .ref 65, .ref 66, .int 0, .int 0]) := mp_o_ok (mp_at (k := 9) rfl)
theorem mp_q497 : (mp_hh mp_r2).2.2 497 = .inr (9, [.int 0, .long 0, .ref 498, .ref 499, .ref 500, .int 0, .int 0]) := mp_o_ok (mp_at (k := 10) rfl)
theorem mp_q505 : (mp_hh mp_r2).2.2 505 = .inr (12, mp_M) := mp_o_ok (mp_at (k := 11) rfl)
theorem mp_q36 : ∃ g, (mp_hh mp_r2).2.2 36 = .inl (0, 16, .inl g) := mp_ai_ok (mp_at (k := 12) rfl)
theorem mp_q37 : ∃ g, (mp_hh mp_r2).2.2 37 = .inl (0, 16, .inl g) := mp_ai_ok (mp_at (k := 13) rfl)
theorem mp_q38 : ∃ g, (mp_hh mp_r2).2.2 38 = .inl (0, 16, .inl g) := mp_ai_ok (mp_at (k := 14) rfl)
theorem mp_q39 : ∃ g, (mp_hh mp_r2).2.2 39 = .inl (0, 16, .inl g) := mp_ai_ok (mp_at (k := 15) rfl)
theorem mp_q506 : ∃ g, (mp_hh mp_r2).2.2 506 = .inl (0, 8200, .inl g) := mp_ai_ok (mp_at (k := 16) rfl)
theorem mp_q551 : ∃ g, (mp_hh mp_r2).2.2 551 = .inl (0, 16, .inl g) := mp_ai_ok (mp_at (k := 17) rfl)
theorem mp_q552 : ∃ g, (mp_hh mp_r2).2.2 552 = .inl (0, 16, .inl g) := mp_ai_ok (mp_at (k := 18) rfl)
theorem mp_q553 : ∃ g, (mp_hh mp_r2).2.2 553 = .inl (0, 16, .inl g) := mp_ai_ok (mp_at (k := 19) rfl)
theorem mp_q554 : ∃ g, (mp_hh mp_r2).2.2 554 = .inl (0, 16, .inl g) := mp_ai_ok (mp_at (k := 20) rfl)
theorem mp_q2 : ∃ g, (mp_hh mp_r2).2.2 2 = .inl (1, 8200, .inl g) := mp_ai_ok (mp_at (k := 21) rfl)
theorem mp_q40 : ∃ g, (mp_hh mp_r2).2.2 40 = .inl (3, 16, .inr (.inl g)) := mp_al_ok (mp_at (k := 22) rfl)
theorem mp_q555 : ∃ g, (mp_hh mp_r2).2.2 555 = .inl (3, 16, .inr (.inl g)) := mp_al_ok (mp_at (k := 23) rfl)
theorem mp_q33 : ∃ g, (mp_hh mp_r2).2.2 33 = .inl (3, 32, .inr (.inl g)) ∧ ∀ j, j < 32 → g j = 0 := mp_az_ok (mp_at (k := 24) rfl)
theorem mp_q550 : ∃ g, (mp_hh mp_r2).2.2 550 = .inl (3, 32, .inr (.inl g)) ∧ ∀ j, j < 32 → g j = 0 := mp_az_ok (mp_at (k := 25) rfl)
theorem mp_k4 : ∃ f, mp_r4 = some (.inl (some (.int 2)), 576, 101215, f) := mp_io_ok (mp_at (k := 26) rfl)
theorem mp_k4m : ∃ fs, (mp_hh mp_r4).2.2 505 = .inr (12, fs) ∧ fs[0]? = some (.int 0) := mp_e_ok (mp_at (k := 27) rfl)
theorem mp_k5 : ∃ f, mp_r5 = some (.inl (some (.int 0)), 576, 101215, f) := mp_io_ok (mp_at (k := 28) rfl)
theorem mp_k5m : ∃ fs, (mp_hh mp_r5).2.2 505 = .inr (12, fs) ∧ fs[0]? = some (.int 2) := mp_e_ok (mp_at (k := 29) rfl)
theorem mp_k5o : ∃ g, (mp_hh mp_r5).2.2 574 = .inl (3, 1, .inr (.inl g)) := mp_al_ok (mp_at (k := 30) rfl)
