/-! the second object: its heap as a function of what it holds. I, J: fields and arrays by place; P, L: states by field and place; s: the state at work; B: states by depth; D: what lies at places behind 574 -/
abbrev mg_A : Type := (Nat → Nat → Int32) × (Nat → Nat → Int64) × (Nat → Nat → Nat → Int32) × (Nat → Nat → Nat → Int64) × Value × (Nat → Option Nat) × (Nat → Nat)
def mg_A.I (b : mg_A) : Nat → Nat → Int32 := b.1
def mg_A.J (b : mg_A) : Nat → Nat → Int64 := b.2.1
def mg_A.P (b : mg_A) : Nat → Nat → Nat → Int32 := b.2.2.1
def mg_A.L (b : mg_A) : Nat → Nat → Nat → Int64 := b.2.2.2.1
def mg_A.s (b : mg_A) : Value := b.2.2.2.2.1
def mg_A.B (b : mg_A) : Nat → Option Nat := b.2.2.2.2.2.1
def mg_A.D (b : mg_A) : Nat → Nat := b.2.2.2.2.2.2
def mg_A.sI (b : mg_A) (q : Nat) (g : Nat → Int32) : mg_A := (va_up b.I q g, b.2)
def mg_A.sJ (b : mg_A) (q : Nat) (g : Nat → Int64) : mg_A := (b.1, va_up b.J q g, b.2.2)
def mg_A.sP (b : mg_A) (k p : Nat) (g : Nat → Int32) : mg_A := (b.1, b.2.1, mh_v b.P k p g, b.2.2.2)
def mg_A.sL (b : mg_A) (k p : Nat) (g : Nat → Int64) : mg_A := (b.1, b.2.1, b.2.2.1, mh_v b.L k p g, b.2.2.2.2)
def mg_A.sS (b : mg_A) (v : Value) : mg_A := (b.1, b.2.1, b.2.2.1, b.2.2.2.1, v, b.2.2.2.2.2)
def mg_A.sB (b : mg_A) (g : Nat → Option Nat) : mg_A := (b.1, b.2.1, b.2.2.1, b.2.2.2.1, b.2.2.2.2.1, g, b.2.2.2.2.2.2)
def mg_A.sX (b : mg_A) (k : Nat) (v : Int32) : mg_A := b.sI 505 (va_up (b.I 505) k v)
def mg_A.sY (b : mg_A) (k : Nat) (v : Int64) : mg_A := b.sJ 505 (va_up (b.J 505) k v)
/-- what lies at a place: 9 the object, 8 a state, 7 and 4 its arrays (length, which), 0 and 3 arrays, 6 states by depth, 5 none of it -/
def mg_l : List (Nat × Nat × Nat) := [(9, 0, 0), (0, 8200, 0), (0, 8192, 0), (5, 0, 0), (0, 800, 0), (0, 800, 0), (0, 800, 0), (0, 800, 0), (0, 800, 0), (0, 800, 0), (0, 800, 0), (0, 800, 0), (3, 800, 0), (3, 4200, 0), (3, 4200, 0), (0, 8, 0), (0, 8, 0), (0, 4, 0), (0, 4, 0), (0, 8, 0), (0, 8, 0), (0, 8, 0), (0, 8, 0), (0, 8, 0), (0, 800, 0), (0, 800, 0), (8, 0, 0), (7, 32, 1), (7, 8, 2), (7, 8, 3), (4, 8, 4), (4, 8, 5), (8, 0, 0), (7, 32, 1), (7, 8, 2), (7, 8, 3), (4, 8, 4), (4, 8, 5), (0, 2000, 0), (0, 2000, 0), (0, 2000, 0), (0, 2000, 0), (0, 2000, 0), (3, 2000, 0), (3, 32, 0), (3, 32, 0), (0, 16, 0), (0, 16, 0), (0, 16, 0), (0, 16, 0), (3, 16, 0), (0, 2000, 0), (0, 2000, 0), (0, 2000, 0), (0, 2000, 0), (0, 2000, 0), (3, 2000, 0), (0, 2000, 0), (0, 2000, 0), (0, 2000, 0), (0, 2000, 0), (3, 2000, 0), (3, 2000, 0), (6, 2000, 0), (0, 16, 0), (0, 16, 0), (0, 16, 0), (0, 16, 0), (3, 16, 0), (5, 0, 0)]
def mg_d (k : Nat) : Nat × Nat × Nat := match k with
  | 1 => (8, 0, 0)
  | 2 => (7, 32, 1)
  | 3 => (7, 8, 2)
  | 4 => (7, 8, 3)
  | 5 => (4, 8, 4)
  | 6 => (4, 8, 5)
  | _ => (5, 0, 0)
def mg_t (D : Nat → Nat) (q : Nat) : Nat × Nat × Nat := if q < 575 then mg_l.getD (q - 505) (5, 0, 0) else mg_d (D q)
def mg_f (b : mg_A) (p : Nat) : List Value := [.int (b.P 0 p 0), .long (b.L 0 p 0), .ref (p + 1), .ref (p + 2), .ref (p + 3), .ref (p + 4), .ref (p + 5)]
def mg_c (b : mg_A) (f0 : Nat → mi_C) (q : Nat) : Nat × Nat × Nat → mi_C
  | (kd, len, k) => if kd = 9 then .inr (12, mL 88 (mr_S (b.I 505) (b.J 505) b.s)) else if kd = 8 then .inr (13, mg_f b q) else if kd = 7 then .inl (3, len, .inr (.inl (b.L k (q - k)))) else if kd = 4 then .inl (2, len, .inl (b.P k (q - k))) else if kd = 3 then .inl (3, len, .inr (.inl (b.J q))) else if kd = 6 then .inl (6, len, .inr (.inr (.inr (.inr b.B)))) else if kd = 5 then f0 q else .inl (kd, len, .inl (b.I q))
def hd (b : mg_A) (f0 : Nat → mi_C) (q : Nat) : mi_C := if q < 505 then f0 q else mg_c b f0 q (mg_t b.D q)
/-- a state lies at p -/
def mg_o (D : Nat → Nat) (p : Nat) : Prop := 530 < p ∧ mg_t D p = (8, 0, 0) ∧ mg_t D (p + 1) = (7, 32, 1) ∧ mg_t D (p + 2) = (7, 8, 2) ∧ mg_t D (p + 3) = (7, 8, 3) ∧ mg_t D (p + 4) = (4, 8, 4) ∧ mg_t D (p + 5) = (4, 8, 5)
theorem mg_l5 : ∀ q : Fin 70, (mg_l.getD q.1 (5, 0, 0)).1 = 9 → q.1 = 0 := by decide +kernel
theorem mg_l6 : ∀ q : Fin 70, (mg_l.getD q.1 (5, 0, 0)).1 = 6 → q.1 = 63 := by decide +kernel
theorem mg_l7 : ∀ q : Fin 70, ((mg_l.getD q.1 (5, 0, 0)).1 = 7 ∨ (mg_l.getD q.1 (5, 0, 0)).1 = 4) → 0 < (mg_l.getD q.1 (5, 0, 0)).2.2 ∧ (mg_l.getD q.1 (5, 0, 0)).2.2 < 6 := by decide +kernel
section
variable {b : mg_A} {f0 : Nat → mi_C} {D : Nat → Nat} {p q k t len : Nat}
theorem mg_d9' : ¬ (mg_d k).1 = 9 ∧ ¬ (mg_d k).1 = 6 ∧ (((mg_d k).1 = 7 ∨ (mg_d k).1 = 4) → 0 < (mg_d k).2.2 ∧ (mg_d k).2.2 < 6) := by
  unfold mg_d
  split <;> decide
theorem mg_tl (h : q < 575) : mg_t D q = mg_l.getD (q - 505) (5, 0, 0) := if_pos h
theorem mg_th (h : ¬ q < 575) : mg_t D q = mg_d (D q) := if_neg h
theorem mg_t9 (h5 : 505 ≤ q) (h : (mg_t D q).1 = 9) : q = 505 := by
  by_cases hq : q < 575
  · rw [mg_tl hq] at h
    have := mg_l5 ⟨q - 505, by omega⟩ h
    simp only at this
    omega
  · rw [mg_th hq] at h
    exact absurd h mg_d9'.1
theorem mg_t6 (h5 : 505 ≤ q) (h : (mg_t D q).1 = 6) : q = 568 := by
  by_cases hq : q < 575
  · rw [mg_tl hq] at h
    have := mg_l6 ⟨q - 505, by omega⟩ h
    simp only at this
    omega
  · rw [mg_th hq] at h
    exact absurd h mg_d9'.2.1
theorem mg_t7 (h5 : 505 ≤ q) (h : (mg_t D q).1 = 7 ∨ (mg_t D q).1 = 4) : 0 < (mg_t D q).2.2 ∧ (mg_t D q).2.2 < 6 := by
  by_cases hq : q < 575
  · rw [mg_tl hq] at h ⊢
    have h2 := mg_l7 ⟨q - 505, by omega⟩
    revert h h2
    generalize mg_l.getD (q - 505) (5, 0, 0) = T
    exact fun h h2 => h2 h
  · rw [mg_th hq] at h ⊢
    exact mg_d9'.2.2 h
theorem hd_9 : hd b f0 505 = .inr (12, mL 88 (mr_S (b.I 505) (b.J 505) b.s)) := rfl
theorem hd_8 (h : mg_o b.D p) : hd b f0 p = .inr (13, mg_f b p) := by
  have := h.1
  unfold hd
  rw [if_neg (by omega), h.2.1]
  rfl
theorem hd_L1 (h : mg_o b.D p) : hd b f0 (p + 1) = .inl (3, 32, .inr (.inl (b.L 1 p))) := by
  have := h.1
  unfold hd
  rw [if_neg (by omega), h.2.2.1]
  rfl
theorem hd_L2 (h : mg_o b.D p) : hd b f0 (p + 2) = .inl (3, 8, .inr (.inl (b.L 2 p))) := by
  have := h.1
  unfold hd
  rw [if_neg (by omega), h.2.2.2.1]
  rfl
theorem hd_L3 (h : mg_o b.D p) : hd b f0 (p + 3) = .inl (3, 8, .inr (.inl (b.L 3 p))) := by
  have := h.1
  unfold hd
  rw [if_neg (by omega), h.2.2.2.2.1]
  rfl
theorem hd_P4 (h : mg_o b.D p) : hd b f0 (p + 4) = .inl (2, 8, .inl (b.P 4 p)) := by
  have := h.1
  unfold hd
  rw [if_neg (by omega), h.2.2.2.2.2.1]
  rfl
theorem hd_P5 (h : mg_o b.D p) : hd b f0 (p + 5) = .inl (2, 8, .inl (b.P 5 p)) := by
  have := h.1
  unfold hd
  rw [if_neg (by omega), h.2.2.2.2.2.2]
  rfl
theorem hd_J (h5 : 505 ≤ q) (h : mg_t b.D q = (3, len, 0)) : hd b f0 q = .inl (3, len, .inr (.inl (b.J q))) := by
  unfold hd
  rw [if_neg (by omega), h]
  rfl
theorem hd_I (h5 : 505 ≤ q) (h : mg_t b.D q = (0, len, 0)) : hd b f0 q = .inl (0, len, .inl (b.I q)) := by
  unfold hd
  rw [if_neg (by omega), h]
  rfl
theorem hd_B : hd b f0 568 = .inl (6, 2000, .inr (.inr (.inr (.inr b.B)))) := rfl
theorem hd_lo (h : q < 505) : hd b f0 q = f0 q := by
  unfold hd
  rw [if_pos h]
theorem hd_5 (h5 : 505 ≤ q) (h : mg_t b.D q = (5, 0, 0)) : hd b f0 q = f0 q := by
  unfold hd
  rw [if_neg (by omega), h]
  rfl
/-- two ways of writing a cell -/
theorem hd_ext {f : Nat → mi_C} {b' : mg_A} (hq : f q = mg_c b' f0 q (mg_t b'.D q)) (h5 : 505 ≤ q) (hD : b'.D = b.D) (ho : ∀ q', ¬ q' = q → 505 ≤ q' → mg_c b' f0 q' (mg_t b.D q') = mg_c b f0 q' (mg_t b.D q')) (hf : ∀ q', ¬ q' = q → f q' = hd b f0 q') : f = hd b' f0 := by
  funext q'
  unfold hd
  by_cases e : q' = q
  · subst e
    rw [hq, if_neg (by omega)]
  · rw [hf q' e]
    unfold hd
    split
    · rfl
    · rw [hD]
      exact (ho q' e (by omega)).symm
theorem gw_X {v : Int32} (hk : mr_kd.getD k 0 = 0) : va_up (hd b f0) 505 (.inr (12, (mL 88 (mr_S (b.I 505) (b.J 505) b.s)).set k (.int v))) = hd (b.sX k v) f0 := by
  refine hd_ext (q := 505) (b := b) ?_ (Nat.le_refl _) rfl (fun q' e h5 => ?_) (fun q' e => va_ne e)
  · rw [va_eq, mL_set, mr_S_int hk]
    show _ = Sum.inr (12, mL 88 (mr_S ((b.sX k v).I 505) ((b.sX k v).J 505) (b.sX k v).s))
    have e1 : (b.sX k v).I 505 = va_up (b.I 505) k v := va_eq (f := b.I) (k := 505) (v := va_up (b.I 505) k v)
    rw [e1]
    rfl
  · have h9 : ¬ (mg_t b.D q').1 = 9 := fun h => e (mg_t9 (D := b.D) h5 h)
    generalize mg_t b.D q' = T at *
    obtain ⟨kd, len, k'⟩ := T
    unfold mg_c
    dsimp only at *
    rw [if_neg h9, if_neg h9]
    have e1 : (b.sX k v).I q' = b.I q' := va_ne (f := b.I) e
    rw [e1]
    rfl
theorem gw_Y {v : Int64} (hk : k = 11 ∨ k = 44 ∨ k = 45) : va_up (hd b f0) 505 (.inr (12, (mL 88 (mr_S (b.I 505) (b.J 505) b.s)).set k (.long v))) = hd (b.sY k v) f0 := by
  refine hd_ext (q := 505) (b := b) ?_ (Nat.le_refl _) rfl (fun q' e h5 => ?_) (fun q' e => va_ne e)
  · rw [va_eq, mL_set, mr_S_long hk]
    show _ = Sum.inr (12, mL 88 (mr_S ((b.sY k v).I 505) ((b.sY k v).J 505) (b.sY k v).s))
    have e1 : (b.sY k v).J 505 = va_up (b.J 505) k v := va_eq (f := b.J) (k := 505) (v := va_up (b.J 505) k v)
    rw [e1]
    rfl
  · have h9 : ¬ (mg_t b.D q').1 = 9 := fun h => e (mg_t9 (D := b.D) h5 h)
    generalize mg_t b.D q' = T at *
    obtain ⟨kd, len, k'⟩ := T
    unfold mg_c
    dsimp only at *
    rw [if_neg h9, if_neg h9]
    have e1 : (b.sY k v).J q' = b.J q' := va_ne (f := b.J) e
    rw [e1]
    rfl
theorem gw_S {v : Value} : va_up (hd b f0) 505 (.inr (12, (mL 88 (mr_S (b.I 505) (b.J 505) b.s)).set 43 v)) = hd (b.sS v) f0 := by
  refine hd_ext (q := 505) (b := b) ?_ (Nat.le_refl _) rfl (fun q' e h5 => ?_) (fun q' e => va_ne e)
  · rw [va_eq, mL_set, mr_S_s]
    rfl
  · have h9 : ¬ (mg_t b.D q').1 = 9 := fun h => e (mg_t9 (D := b.D) h5 h)
    generalize mg_t b.D q' = T at *
    obtain ⟨kd, len, k'⟩ := T
    unfold mg_c
    dsimp only at *
    rw [if_neg h9, if_neg h9]
    rfl
theorem gw_I {g : Nat → Int32} (h5 : 505 < q) (h : mg_t b.D q = (0, len, 0)) : va_up (hd b f0) q (.inl (0, len, .inl g)) = hd (b.sI q g) f0 := by
  refine hd_ext (q := q) (b := b) ?_ (by omega) rfl (fun q' e h5' => ?_) (fun q' e => va_ne e)
  · show _ = mg_c _ _ _ (mg_t b.D q)
    rw [va_eq, h]
    show _ = Sum.inl (0, len, Sum.inl ((b.sI q g).I q))
    have e1 : (b.sI q g).I q = g := va_eq
    rw [e1]
  · rcases mg_t b.D q' with ⟨kd, len', k'⟩
    unfold mg_c
    have e1 : (b.sI q g).I q' = b.I q' := va_ne e
    have e2 : (b.sI q g).I 505 = b.I 505 := va_ne (by omega)
    dsimp only
    rw [e1, e2]
    rfl
theorem gw_J {g : Nat → Int64} (h5 : 505 < q) (h : mg_t b.D q = (3, len, 0)) : va_up (hd b f0) q (.inl (3, len, .inr (.inl g))) = hd (b.sJ q g) f0 := by
  refine hd_ext (q := q) (b := b) ?_ (by omega) rfl (fun q' e h5' => ?_) (fun q' e => va_ne e)
  · show _ = mg_c _ _ _ (mg_t b.D q)
    rw [va_eq, h]
    show _ = Sum.inl (3, len, Sum.inr (Sum.inl ((b.sJ q g).J q)))
    have e1 : (b.sJ q g).J q = g := va_eq
    rw [e1]
  · rcases mg_t b.D q' with ⟨kd, len', k'⟩
    unfold mg_c
    have e1 : (b.sJ q g).J q' = b.J q' := va_ne e
    have e2 : (b.sJ q g).J 505 = b.J 505 := va_ne (by omega)
    dsimp only
    rw [e1, e2]
    rfl
theorem gw_B {g : Nat → Option Nat} : va_up (hd b f0) 568 (.inl (6, 2000, .inr (.inr (.inr (.inr g))))) = hd (b.sB g) f0 := by
  refine hd_ext (q := 568) (b := b) ?_ (by omega) rfl (fun q' e h5' => ?_) (fun q' e => va_ne e)
  · rw [va_eq]
    rfl
  · have h6 : ¬ (mg_t b.D q').1 = 6 := fun h => e (mg_t6 (D := b.D) h5' h)
    generalize mg_t b.D q' = T at *
    obtain ⟨kd, len', k'⟩ := T
    unfold mg_c
    dsimp only at *
    rw [if_neg h6, if_neg h6]
    rfl
theorem mg_c_o {b' : mg_A} (h5 : 505 ≤ q) (hI : b'.I = b.I) (hJ : b'.J = b.J) (hs : b'.s = b.s) (hB : b'.B = b.B) (hf : (mg_t D q).1 = 8 → mg_f b' q = mg_f b q) (hL : ∀ k, (mg_t D q).1 = 7 → (mg_t D q).2.2 = k → 0 < k → k < 6 → b'.L k (q - k) = b.L k (q - k)) (hP : ∀ k, (mg_t D q).1 = 4 → (mg_t D q).2.2 = k → 0 < k → k < 6 → b'.P k (q - k) = b.P k (q - k)) : mg_c b' f0 q (mg_t D q) = mg_c b f0 q (mg_t D q) := by
  have h7 := mg_t7 (D := D) h5
  generalize mg_t D q = T at *
  obtain ⟨kd, len', k'⟩ := T
  unfold mg_c
  dsimp only at *
  rw [hI, hJ, hs, hB]
  split
  · rfl
  · split
    · rw [hf (by assumption)]
    · split
      · rename_i h _ _
        rw [hL k' (by assumption) rfl (h7 (Or.inl (by assumption))).1 (h7 (Or.inl (by assumption))).2]
      · split
        · rw [hP k' (by assumption) rfl (h7 (Or.inr (by assumption))).1 (h7 (Or.inr (by assumption))).2]
        · rfl
theorem gw_L {g : Nat → Int64} (h5 : 530 < p) (h : mg_t b.D (p + k) = (7, len, k)) : va_up (hd b f0) (p + k) (.inl (3, len, .inr (.inl g))) = hd (b.sL k p g) f0 := by
  have hk : 0 < k ∧ k < 6 := by
    have := mg_t7 (D := b.D) (q := p + k) (by omega) (by rw [h]; exact Or.inl rfl)
    rw [h] at this
    exact this
  refine hd_ext (q := p + k) (b := b) ?_ (by omega) rfl (fun q' e h5' => ?_) (fun q' e => va_ne e)
  · show _ = mg_c _ _ _ (mg_t b.D (p + k))
    rw [va_eq, h]
    show _ = Sum.inl (3, len, Sum.inr (Sum.inl ((b.sL k p g).L k (p + k - k))))
    have e1 : (b.sL k p g).L k (p + k - k) = g := by
      rw [Nat.add_sub_cancel]
      exact mh_v_at
    rw [e1]
  · refine mg_c_o h5' rfl rfl rfl rfl (fun _ => ?_) (fun k' _ _ h1 h2 => ?_) (fun _ _ _ _ _ => rfl)
    · unfold mg_f
      have e1 : (b.sL k p g).L 0 q' = b.L 0 q' := mh_v_x (fun e => by omega)
      rw [e1]
      rfl
    · exact mh_v_x (fun e => by omega)
theorem gw_P {g : Nat → Int32} (h5 : 530 < p) (h : mg_t b.D (p + k) = (4, len, k)) : va_up (hd b f0) (p + k) (.inl (2, len, .inl g)) = hd (b.sP k p g) f0 := by
  have hk : 0 < k ∧ k < 6 := by
    have := mg_t7 (D := b.D) (q := p + k) (by omega) (by rw [h]; exact Or.inr rfl)
    rw [h] at this
    exact this
  refine hd_ext (q := p + k) (b := b) ?_ (by omega) rfl (fun q' e h5' => ?_) (fun q' e => va_ne e)
  · show _ = mg_c _ _ _ (mg_t b.D (p + k))
    rw [va_eq, h]
    show _ = Sum.inl (2, len, Sum.inl ((b.sP k p g).P k (p + k - k)))
    have e1 : (b.sP k p g).P k (p + k - k) = g := by
      rw [Nat.add_sub_cancel]
      exact mh_v_at
    rw [e1]
  · refine mg_c_o h5' rfl rfl rfl rfl (fun _ => ?_) (fun _ _ _ _ _ => rfl) (fun k' _ _ h1 h2 => ?_)
    · unfold mg_f
      have e1 : (b.sP k p g).P 0 q' = b.P 0 q' := mh_v_x (fun e => by omega)
      rw [e1]
      rfl
    · exact mh_v_x (fun e => by omega)
theorem gw_at {v : Int32} (h : mg_o b.D p) : va_up (hd b f0) p (.inr (13, (mg_f b p).set 0 (.int v))) = hd (b.sP 0 p (fun _ => v)) f0 := by
  have h5 := h.1
  refine hd_ext (q := p) (b := b) ?_ (by omega) rfl (fun q' e h5' => ?_) (fun q' e => va_ne e)
  · show _ = mg_c _ _ _ (mg_t b.D p)
    rw [va_eq, h.2.1]
    show _ = Sum.inr (13, mg_f (b.sP 0 p (fun _ => v)) p)
    unfold mg_f
    have e1 : (b.sP 0 p (fun _ => v)).P 0 p = (fun _ => v) := mh_v_at (X := b.P) (c := 0) (p := p) (v := fun _ => v)
    rw [e1]
    rfl
  · refine mg_c_o h5' rfl rfl rfl rfl (fun _ => ?_) (fun _ _ _ _ _ => rfl) (fun k' _ _ h1 h2 => ?_)
    · unfold mg_f
      have e1 : (b.sP 0 p (fun _ => v)).P 0 q' = b.P 0 q' := mh_v_x (X := b.P) (c := 0) (r := p) (v := fun _ => v) (c' := 0) (r' := q') (fun e' => e e'.2)
      rw [e1]
      rfl
    · exact mh_v_x (fun e => by omega)
theorem gw_tm {v : Int64} (h : mg_o b.D p) : va_up (hd b f0) p (.inr (13, (mg_f b p).set 1 (.long v))) = hd (b.sL 0 p (fun _ => v)) f0 := by
  have h5 := h.1
  refine hd_ext (q := p) (b := b) ?_ (by omega) rfl (fun q' e h5' => ?_) (fun q' e => va_ne e)
  · show _ = mg_c _ _ _ (mg_t b.D p)
    rw [va_eq, h.2.1]
    show _ = Sum.inr (13, mg_f (b.sL 0 p (fun _ => v)) p)
    unfold mg_f
    have e1 : (b.sL 0 p (fun _ => v)).L 0 p = (fun _ => v) := mh_v_at (X := b.L) (c := 0) (p := p) (v := fun _ => v)
    rw [e1]
    rfl
  · refine mg_c_o h5' rfl rfl rfl rfl (fun _ => ?_) (fun k' _ _ h1 h2 => ?_) (fun _ _ _ _ _ => rfl)
    · unfold mg_f
      have e1 : (b.sL 0 p (fun _ => v)).L 0 q' = b.L 0 q' := mh_v_x (X := b.L) (c := 0) (r := p) (v := fun _ => v) (c' := 0) (r' := q') (fun e' => e e'.2)
      rw [e1]
      rfl
    · exact mh_v_x (fun e => by omega)
theorem gw_L1 {g : Nat → Int64} (h : mg_o b.D p) : va_up (hd b f0) (p + 1) (.inl (3, 32, .inr (.inl g))) = hd (b.sL 1 p g) f0 := gw_L h.1 h.2.2.1
theorem gw_L2 {g : Nat → Int64} (h : mg_o b.D p) : va_up (hd b f0) (p + 2) (.inl (3, 8, .inr (.inl g))) = hd (b.sL 2 p g) f0 := gw_L h.1 h.2.2.2.1
theorem gw_L3 {g : Nat → Int64} (h : mg_o b.D p) : va_up (hd b f0) (p + 3) (.inl (3, 8, .inr (.inl g))) = hd (b.sL 3 p g) f0 := gw_L h.1 h.2.2.2.2.1
theorem gw_P4 {g : Nat → Int32} (h : mg_o b.D p) : va_up (hd b f0) (p + 4) (.inl (2, 8, .inl g)) = hd (b.sP 4 p g) f0 := gw_P h.1 h.2.2.2.2.2.1
theorem gw_P5 {g : Nat → Int32} (h : mg_o b.D p) : va_up (hd b f0) (p + 5) (.inl (2, 8, .inl g)) = hd (b.sP 5 p g) f0 := gw_P h.1 h.2.2.2.2.2.2
/-- outside of the second object -/
theorem hd_out {x : mi_C} (h : q < 505 ∨ mg_t b.D q = (5, 0, 0)) : va_up (hd b f0) q x = hd b (va_up f0 q x) := by
  funext q'
  by_cases e : q' = q
  · subst e
    rw [va_eq]
    rcases h with h | h
    · rw [hd_lo h, va_eq]
    · by_cases h5 : q' < 505
      · rw [hd_lo h5, va_eq]
      · rw [hd_5 (by omega) h, va_eq]
  · rw [va_ne e]
    unfold hd
    split
    · rw [va_ne e]
    · unfold mg_c
      rcases mg_t b.D q' with ⟨kd, len', k'⟩
      dsimp only
      rw [va_ne e]
/-- both objects in one heap -/
theorem hc_hd {a : mh_A} {b : mg_A} {f0 : Nat → mi_C} : hc a (hd b f0) = hd b (hc a f0) := by
  funext q
  by_cases h : q < 505
  · rw [hd_lo h]
    unfold hc
    rw [if_pos h, if_pos h]
    unfold mh_c
    rcases mh_t q with ⟨kd, len', c', p', k'⟩
    dsimp only
    rw [hd_lo h]
  · rw [hc_far (by omega)]
    unfold hd
    rw [if_neg h, if_neg h]
    unfold mg_c
    rcases mg_t b.D q with ⟨kd, len', k'⟩
    dsimp only
    rw [hc_far (by omega)]
end
