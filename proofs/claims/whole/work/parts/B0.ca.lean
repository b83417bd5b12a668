/-! the first object: its heap as a function of what it holds. XI, XL, XR: fields by class, place, field; AI, AL: arrays by class, owner, field -/
abbrev mh_A : Type := (Nat → Nat → Nat → Int32) × (Nat → Nat → Nat → Int64) × (Nat → Nat → Nat) × (Nat → Nat → Nat → Nat → Int32) × (Nat → Nat → Nat → Nat → Int64)
def mh_A.I (a : mh_A) : Nat → Nat → Nat → Int32 := a.1
def mh_A.L (a : mh_A) : Nat → Nat → Nat → Int64 := a.2.1
def mh_A.R (a : mh_A) : Nat → Nat → Nat := a.2.2.1
def mh_A.AI (a : mh_A) : Nat → Nat → Nat → Nat → Int32 := a.2.2.2.1
def mh_A.AL (a : mh_A) : Nat → Nat → Nat → Nat → Int64 := a.2.2.2.2
def mh_u {α : Type} (X : Nat → Nat → Nat → α) (c p k : Nat) (v : α) : Nat → Nat → Nat → α := fun c' p' k' => if c' = c then (if k' = k then (if p' = p then v else X c' p' k') else X c' p' k') else X c' p' k'
def mh_v {α : Type} (X : Nat → Nat → α) (c p : Nat) (v : α) : Nat → Nat → α := fun c' p' => if c' = c then (if p' = p then v else X c' p') else X c' p'
def mh_A.sI (a : mh_A) (c p k : Nat) (v : Int32) : mh_A := (mh_u a.I c p k v, a.2)
def mh_A.sL (a : mh_A) (c p k : Nat) (v : Int64) : mh_A := (a.1, mh_u a.L c p k v, a.2.2)
def mh_A.sR (a : mh_A) (c p : Nat) (v : Nat) : mh_A := (a.1, a.2.1, mh_v a.R c p v, a.2.2.2)
def mh_A.sAI (a : mh_A) (c p k : Nat) (g : Nat → Int32) : mh_A := (a.1, a.2.1, a.2.2.1, mh_u a.AI c p k g, a.2.2.2.2)
def mh_A.sAL (a : mh_A) (c p k : Nat) (g : Nat → Int64) : mh_A := (a.1, a.2.1, a.2.2.1, a.2.2.2.1, mh_u a.AL c p k g)
/-- what lies at a place: 9 an object of class c; else an array: its kind, its length, its owner's class, place and field -/
def mh_l : List (Nat × Nat × Nat × Nat × Nat) := [(9, 0, 0, 0, 0), (9, 0, 1, 0, 0), (1, 8200, 1, 1, 0), (9, 0, 2, 0, 0), (0, 800, 2, 3, 0), (0, 800, 2, 3, 1), (0, 800, 2, 3, 2), (0, 800, 2, 3, 3), (0, 800, 2, 3, 4), (0, 800, 2, 3, 5), (0, 800, 2, 3, 6), (0, 800, 2, 3, 7), (2, 800, 2, 3, 8), (3, 800, 2, 3, 9), (3, 4096, 2, 3, 10), (9, 0, 3, 0, 0), (9, 0, 4, 0, 0), (0, 8, 4, 16, 1), (0, 8, 4, 16, 2), (0, 8, 4, 16, 3), (9, 0, 4, 0, 0), (0, 4, 4, 20, 1), (0, 4, 4, 20, 2), (0, 4, 4, 20, 3), (9, 0, 4, 0, 0), (0, 8, 4, 24, 1), (0, 8, 4, 24, 2), (0, 8, 4, 24, 3), (9, 0, 4, 0, 0), (0, 8, 4, 28, 1), (0, 8, 4, 28, 2), (0, 8, 4, 28, 3), (9, 0, 5, 0, 0), (3, 32, 5, 32, 0), (3, 32, 5, 32, 1), (9, 0, 6, 0, 0), (0, 16, 6, 35, 0), (0, 16, 6, 35, 1), (0, 16, 6, 35, 2), (0, 16, 6, 35, 3), (3, 16, 6, 35, 4), (9, 0, 7, 0, 0), (9, 0, 8, 0, 0), (0, 148, 8, 42, 0), (0, 148, 8, 42, 1), (0, 148, 8, 42, 2), (0, 148, 8, 42, 3), (0, 148, 8, 42, 4), (3, 148, 8, 42, 5), (9, 0, 9, 0, 0), (3, 32, 9, 49, 2), (3, 8, 9, 49, 3), (3, 8, 9, 49, 4), (9, 0, 10, 0, 0), (9, 0, 11, 0, 0), (9, 0, 6, 0, 0), (0, 16, 6, 55, 0), (0, 16, 6, 55, 1), (0, 16, 6, 55, 2), (0, 16, 6, 55, 3), (3, 16, 6, 55, 4), (4, 104, 11, 54, 4), (0, 104, 11, 54, 5), (0, 104, 11, 54, 6), (0, 104, 11, 54, 7), (3, 104, 11, 54, 8), (0, 104, 11, 54, 9), (9, 0, 7, 0, 0), (9, 0, 8, 0, 0), (0, 148, 8, 68, 0), (0, 148, 8, 68, 1), (0, 148, 8, 68, 2), (0, 148, 8, 68, 3), (0, 148, 8, 68, 4), (3, 148, 8, 68, 5), (9, 0, 9, 0, 0), (3, 32, 9, 75, 2), (3, 8, 9, 75, 3), (3, 8, 9, 75, 4), (9, 0, 10, 0, 0)]
def mh_b (q : Nat) : Nat := if q < 496 then q - q % 4 else if q < 501 then 497 else 501
def mh_t (q : Nat) : Nat × Nat × Nat × Nat × Nat := if q < 80 then mh_l.getD q (7, 0, 0, 0, 0) else if q = 496 then (9, 0, 10, 0, 0) else if q - mh_b q = 0 then (9, 0, 9, 0, 0) else if q - mh_b q = 1 then (3, 32, 9, mh_b q, 2) else if q - mh_b q = 2 then (3, 8, 9, mh_b q, 3) else (3, 8, 9, mh_b q, 4)
def mh_f (a : mh_A) (c p : Nat) : List Value := match c with
  | 0 => [.ref 1, .ref 3, .ref 15, .ref 32, .ref 35, .ref 41, .ref 54, .ref 497, .ref 501, .int (a.I 0 p 9)]
  | 1 => [.ref (p + 1), .int (a.I 1 p 1), .int (a.I 1 p 2), .int (a.I 1 p 3), .int (a.I 1 p 4), .long (a.L 1 p 5), .int (a.I 1 p 6)]
  | 2 => [.ref (p + 1), .ref (p + 2), .ref (p + 3), .ref (p + 4), .ref (p + 5), .ref (p + 6), .ref (p + 7), .ref (p + 8), .ref (p + 9), .ref (p + 10), .ref (p + 11), .int (a.I 2 p 11), .int (a.I 2 p 12)]
  | 3 => [.ref 1, .ref 3, .ref 16, .ref 20, .ref 24, .ref 28, .int (a.I 3 p 6)]
  | 4 => [.ref 2, .ref (p + 1), .ref (p + 2), .ref (p + 3), .int (a.I 4 p 4)]
  | 5 => [.ref (p + 1), .ref (p + 2)]
  | 6 => [.ref (p + 1), .ref (p + 2), .ref (p + 3), .ref (p + 4), .ref (p + 5), .int (a.I 6 p 5)]
  | 7 => [.ref 3, if p = 41 then .ref 32 else .null, .ref (p + 12), .ref (a.R 7 p), .long (a.L 7 p 4), .long (a.L 7 p 5), .int (a.I 7 p 6), .ref (p + 1)]
  | 8 => [.ref (p + 1), .ref (p + 2), .ref (p + 3), .ref (p + 4), .ref (p + 5), .ref (p + 6), .int (a.I 8 p 6), .int (a.I 8 p 7)]
  | 9 => [.int (a.I 9 p 0), .long (a.L 9 p 1), .ref (p + 1), .ref (p + 2), .ref (p + 3), .int (a.I 9 p 5), .int (a.I 9 p 6)]
  | 10 => [.ref 3, .ref (a.R 10 p), .long (a.L 10 p 2), .long (a.L 10 p 3), .int (a.I 10 p 4)]
  | _ => [.ref 3, .ref 67, .ref 496, .ref 55, .ref 61, .ref 62, .ref 63, .ref 64, .ref 65, .ref 66, .int (a.I 11 p 10), .int (a.I 11 p 11)]
def mh_c (a : mh_A) (f0 : Nat → mi_C) (q : Nat) : Nat × Nat × Nat × Nat × Nat → mi_C
  | (kd, len, c, p, k) => if kd = 9 then .inr (c, mh_f a c q) else if kd = 3 then .inl (3, len, .inr (.inl (a.AL c p k))) else if kd = 4 then f0 q else .inl (kd, len, .inl (a.AI c p k))
def hc (a : mh_A) (f0 : Nat → mi_C) (q : Nat) : mi_C := if q < 505 then mh_c a f0 q (mh_t q) else f0 q
def mh_o (p c : Nat) : Prop := p < 505 ∧ mh_t p = (9, 0, c, 0, 0)
def mh_ki : List (Nat × Nat) := [(0, 9), (1, 1), (1, 2), (1, 3), (1, 4), (1, 6), (2, 11), (2, 12), (3, 6), (4, 4), (6, 5), (7, 6), (8, 6), (8, 7), (9, 0), (9, 5), (9, 6), (10, 4), (11, 10), (11, 11)]
def mh_kl : List (Nat × Nat) := [(1, 5), (7, 4), (7, 5), (9, 1), (10, 2), (10, 3)]
section
variable {a : mh_A} {f0 : Nat → mi_C} {c p q k t len : Nat}
theorem mh_u_at {α : Type} {X : Nat → Nat → Nat → α} {v : α} : mh_u X c p k v c p k = v := by simp [mh_u]
theorem mh_u_p {α : Type} {X : Nat → Nat → Nat → α} {v : α} {c' p' k' : Nat} (h : ¬ p' = p) : mh_u X c p k v c' p' k' = X c' p' k' := by simp [mh_u, h]
theorem mh_u_k {α : Type} {X : Nat → Nat → Nat → α} {v : α} {c' p' k' : Nat} (h : ¬ k' = k) : mh_u X c p k v c' p' k' = X c' p' k' := by simp [mh_u, h]
theorem mh_u_c {α : Type} {X : Nat → Nat → Nat → α} {v : α} {c' p' k' : Nat} (h : ¬ c' = c) : mh_u X c p k v c' p' k' = X c' p' k' := by simp [mh_u, h]
theorem mh_v_at {α : Type} {X : Nat → Nat → α} {v : α} : mh_v X c p v c p = v := by simp [mh_v]
theorem mh_v_p {α : Type} {X : Nat → Nat → α} {v : α} {c' p' : Nat} (h : ¬ p' = p) : mh_v X c p v c' p' = X c' p' := by simp [mh_v, h]
theorem hc_o (h : mh_o p c) : hc a f0 p = .inr (c, mh_f a c p) := by
  unfold hc
  rw [if_pos h.1, h.2]
  rfl
theorem hc_far (h : 505 ≤ q) : hc a f0 q = f0 q := by
  unfold hc
  rw [if_neg (by omega)]
theorem hc_al {len : Nat} (hq : q < 505) (h : mh_t q = (3, len, c, p, k)) : hc a f0 q = .inl (3, len, .inr (.inl (a.AL c p k))) := by
  unfold hc
  rw [if_pos hq, h]
  rfl
theorem hc_ai {len : Nat} (hq : q < 505) (h : mh_t q = (t, len, c, p, k)) (ht : t < 3) : hc a f0 q = .inl (t, len, .inl (a.AI c p k)) := by
  unfold hc
  rw [if_pos hq, h]
  unfold mh_c
  dsimp only
  rw [if_neg (by omega), if_neg (by omega), if_neg (by omega)]
theorem mh_f_I {v : Int32} (hk : (c, k) ∈ mh_ki) : (mh_f a c p).set k (.int v) = mh_f (a.sI c p k v) c p := by
  simp only [mh_ki, List.mem_cons, Prod.mk.injEq, List.not_mem_nil, or_false] at hk
  rcases hk with ⟨rfl, rfl⟩ | ⟨rfl, rfl⟩ | ⟨rfl, rfl⟩ | ⟨rfl, rfl⟩ | ⟨rfl, rfl⟩ | ⟨rfl, rfl⟩ | ⟨rfl, rfl⟩ | ⟨rfl, rfl⟩ | ⟨rfl, rfl⟩ | ⟨rfl, rfl⟩ | ⟨rfl, rfl⟩ | ⟨rfl, rfl⟩ | ⟨rfl, rfl⟩ | ⟨rfl, rfl⟩ | ⟨rfl, rfl⟩ | ⟨rfl, rfl⟩ | ⟨rfl, rfl⟩ | ⟨rfl, rfl⟩ | ⟨rfl, rfl⟩ | ⟨rfl, rfl⟩ <;> simp [mh_f, mh_A.sI, mh_A.I, mh_A.L, mh_A.R, mh_u]
theorem mh_f_L {v : Int64} (hk : (c, k) ∈ mh_kl) : (mh_f a c p).set k (.long v) = mh_f (a.sL c p k v) c p := by
  simp only [mh_kl, List.mem_cons, Prod.mk.injEq, List.not_mem_nil, or_false] at hk
  rcases hk with ⟨rfl, rfl⟩ | ⟨rfl, rfl⟩ | ⟨rfl, rfl⟩ | ⟨rfl, rfl⟩ | ⟨rfl, rfl⟩ | ⟨rfl, rfl⟩ <;> simp [mh_f, mh_A.sL, mh_A.I, mh_A.L, mh_A.R, mh_u]
theorem mh_f_R {v : Nat} (hk : (c = 7 ∧ k = 3) ∨ (c = 10 ∧ k = 1)) : (mh_f a c p).set k (.ref v) = mh_f (a.sR c p v) c p := by
  rcases hk with ⟨rfl, rfl⟩ | ⟨rfl, rfl⟩ <;> simp [mh_f, mh_A.sR, mh_A.I, mh_A.L, mh_A.R, mh_v]
theorem mh_f_pI {v : Int32} {c' q : Nat} (h : ¬ q = p) : mh_f (a.sI c p k v) c' q = mh_f a c' q := by
  have e : ∀ c'' k', (a.sI c p k v).I c'' q k' = a.I c'' q k' := fun c'' k' => mh_u_p h
  unfold mh_f
  split <;> (simp only [e]; try rfl)
theorem mh_f_pL {v : Int64} {c' q : Nat} (h : ¬ q = p) : mh_f (a.sL c p k v) c' q = mh_f a c' q := by
  have e : ∀ c'' k', (a.sL c p k v).L c'' q k' = a.L c'' q k' := fun c'' k' => mh_u_p h
  unfold mh_f
  split <;> (try simp only [e]) <;> rfl
theorem mh_f_pR {v : Nat} {c' q : Nat} (h : ¬ q = p) : mh_f (a.sR c p v) c' q = mh_f a c' q := by
  have e : ∀ c'', (a.sR c p v).R c'' q = a.R c'' q := fun c'' => mh_v_p h
  unfold mh_f
  split <;> (try simp only [e]) <;> rfl
theorem hw_I {v : Int32} (h : mh_o p c) (hk : (c, k) ∈ mh_ki) : va_up (hc a f0) p (.inr (c, (mh_f a c p).set k (.int v))) = hc (a.sI c p k v) f0 := by
  funext q
  by_cases e : q = p
  · subst e
    rw [va_eq, hc_o h, mh_f_I hk]
  · rw [va_ne e]
    unfold hc
    rcases mh_t q with ⟨kd, len', c', p', k'⟩
    unfold mh_c
    dsimp only
    rw [mh_f_pI e]
    rfl
theorem hw_L {v : Int64} (h : mh_o p c) (hk : (c, k) ∈ mh_kl) : va_up (hc a f0) p (.inr (c, (mh_f a c p).set k (.long v))) = hc (a.sL c p k v) f0 := by
  funext q
  by_cases e : q = p
  · subst e
    rw [va_eq, hc_o h, mh_f_L hk]
  · rw [va_ne e]
    unfold hc
    rcases mh_t q with ⟨kd, len', c', p', k'⟩
    unfold mh_c
    dsimp only
    rw [mh_f_pL e]
    rfl
theorem hw_R {v : Nat} (h : mh_o p c) (hk : (c = 7 ∧ k = 3) ∨ (c = 10 ∧ k = 1)) : va_up (hc a f0) p (.inr (c, (mh_f a c p).set k (.ref v))) = hc (a.sR c p v) f0 := by
  funext q
  by_cases e : q = p
  · subst e
    rw [va_eq, hc_o h, mh_f_R hk]
  · rw [va_ne e]
    unfold hc
    rcases mh_t q with ⟨kd, len', c', p', k'⟩
    unfold mh_c
    dsimp only
    rw [mh_f_pR e]
    rfl
/-- an array's place, from its owner and field -/
def mh_p (c p k : Nat) : Nat := if c = 9 then p + (k - 1) else if c = 11 then 57 + k else if c = 4 then p + k else p + k + 1
theorem mh_p_of : ∀ q : Fin 505, (mh_t q.1).1 ≠ 9 → q.1 ≠ 61 → q.1 = mh_p (mh_t q.1).2.2.1 (mh_t q.1).2.2.2.1 (mh_t q.1).2.2.2.2 := by decide +kernel
theorem mh_p_inj {q' : Nat} (hq : q < 505) (hq' : q' < 505) (h9 : (mh_t q).1 ≠ 9) (h9' : (mh_t q').1 ≠ 9) (h4 : (mh_t q).1 ≠ 4) (h4' : (mh_t q').1 ≠ 4) (e : (mh_t q').2.2 = (mh_t q).2.2) : q' = q := by
  have h1 := mh_p_of ⟨q, hq⟩ h9 (by rintro rfl; exact h4 rfl)
  have h2 := mh_p_of ⟨q', hq'⟩ h9' (by rintro rfl; exact h4' rfl)
  simp only at h1 h2
  rw [h1, h2, e]
theorem hw_AI {g : Nat → Int32} (hq : q < 505) (h : mh_t q = (t, len, c, p, k)) (ht : t < 3) : va_up (hc a f0) q (.inl (t, len, .inl g)) = hc (a.sAI c p k g) f0 := by
  funext q'
  by_cases e : q' = q
  · subst e
    rw [va_eq, hc_ai hq h ht]
    have : (a.sAI c p k g).AI c p k = g := mh_u_at
    rw [this]
  · rw [va_ne e]
    unfold hc
    by_cases h5 : q' < 505
    · rw [if_pos h5, if_pos h5]
      rcases h' : mh_t q' with ⟨kd, len', c', p', k'⟩
      unfold mh_c
      dsimp only
      by_cases h9 : kd = 9
      · rw [if_pos h9, if_pos h9]
        rfl
      · rw [if_neg h9, if_neg h9]
        by_cases h3 : kd = 3
        · rw [if_pos h3, if_pos h3]
          rfl
        · rw [if_neg h3, if_neg h3]
          by_cases h4 : kd = 4
          · rw [if_pos h4, if_pos h4]
          · rw [if_neg h4, if_neg h4]
            have hx : ¬ (c' = c ∧ p' = p ∧ k' = k) := by
              rintro ⟨rfl, rfl, rfl⟩
              exact e (mh_p_inj hq h5 (by rw [h]; show t ≠ 9; omega) (by rw [h']; exact h9) (by rw [h]; show t ≠ 4; omega) (by rw [h']; exact h4) (by rw [h, h']))
            have : (a.sAI c p k g).AI c' p' k' = a.AI c' p' k' := by
              show mh_u a.AI c p k g c' p' k' = _
              unfold mh_u
              split
              · split
                · split
                  · exact absurd ⟨by assumption, by assumption, by assumption⟩ hx
                  · rfl
                · rfl
              · rfl
            rw [this]
    · rw [if_neg h5, if_neg h5]
theorem hw_AL {g : Nat → Int64} (hq : q < 505) (h : mh_t q = (3, len, c, p, k)) : va_up (hc a f0) q (.inl (3, len, .inr (.inl g))) = hc (a.sAL c p k g) f0 := by
  funext q'
  by_cases e : q' = q
  · subst e
    rw [va_eq, hc_al hq h]
    have : (a.sAL c p k g).AL c p k = g := mh_u_at
    rw [this]
  · rw [va_ne e]
    unfold hc
    by_cases h5 : q' < 505
    · rw [if_pos h5, if_pos h5]
      rcases h' : mh_t q' with ⟨kd, len', c', p', k'⟩
      unfold mh_c
      dsimp only
      by_cases h9 : kd = 9
      · rw [if_pos h9, if_pos h9]
        rfl
      · rw [if_neg h9, if_neg h9]
        by_cases h3 : kd = 3
        · rw [if_pos h3, if_pos h3]
          have hx : ¬ (c' = c ∧ p' = p ∧ k' = k) := by
            rintro ⟨rfl, rfl, rfl⟩
            exact e (mh_p_inj hq h5 (by rw [h]; show (3 : Nat) ≠ 9; omega) (by rw [h']; exact h9) (by rw [h]; show (3 : Nat) ≠ 4; omega) (by rw [h']; show kd ≠ 4; omega) (by rw [h, h']))
          have : (a.sAL c p k g).AL c' p' k' = a.AL c' p' k' := by
            show mh_u a.AL c p k g c' p' k' = _
            unfold mh_u
            split
            · split
              · split
                · exact absurd ⟨by assumption, by assumption, by assumption⟩ hx
                · rfl
              · rfl
            · rfl
          rw [this]
        · rw [if_neg h3, if_neg h3]
          rfl
    · rw [if_neg h5, if_neg h5]
/-- outside of the first object -/
theorem hc_out {x : mi_C} (h : 505 ≤ q) : va_up (hc a f0) q x = hc a (va_up f0 q x) := by
  funext q'
  by_cases e : q' = q
  · subst e
    rw [va_eq, hc_far h, va_eq]
  · rw [va_ne e]
    unfold hc
    split
    · unfold mh_c
      rcases mh_t q' with ⟨kd, len', c', p', k'⟩
      dsimp only
      rw [va_ne e]
    · rw [va_ne e]
/-- the arrays of objects of which there are many -/
theorem mh_o9 : ∀ p : Fin 505, mh_t p.1 = (9, 0, 9, 0, 0) → p.1 + 3 < 505 ∧ mh_t (p.1 + 1) = (3, 32, 9, p.1, 2) ∧ mh_t (p.1 + 2) = (3, 8, 9, p.1, 3) ∧ mh_t (p.1 + 3) = (3, 8, 9, p.1, 4) := by decide +kernel
theorem mh_o4 : ∀ p : Fin 505, mh_t p.1 = (9, 0, 4, 0, 0) → p.1 = 16 ∨ p.1 = 20 ∨ p.1 = 24 ∨ p.1 = 28 := by decide +kernel
end
section
variable {d n sl y pc : Nat} {ls : mi_L} {st : List Value} {f1 f2 f3 : Nat → mi_C} {Q : (Option Value ⊕ Nat) → mi_H → Prop}
theorem hw_W (e : f1 = f2) (k : mi_W d y pc ls st (n, sl, f2) Q) : mi_W d y pc ls st (n, sl, f1) Q := e ▸ k
theorem hw_Q {o : Option Value ⊕ Nat} (e : f1 = f2) (k : Q o (n, sl, f2)) : Q o (n, sl, f1) := e ▸ k
theorem hw_2 {p : Nat} {x : mi_C} (e1 : f1 = f2) (e2 : va_up f2 p x = f3) : va_up f1 p x = f3 := e1 ▸ e2
end
