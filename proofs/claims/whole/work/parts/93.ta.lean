/-! what the reading asks for: tokens -/
abbrev ms_T : Type := Nat × Nat × Nat × Int64
def ms_T.k (t : ms_T) : Nat := t.1
def ms_T.a (t : ms_T) : Nat := t.2.1
def ms_T.b (t : ms_T) : Nat := t.2.2.1
def ms_T.v (t : ms_T) : Int64 := t.2.2.2
def ms_c (g : Nat → Int32) (L k : Nat) : Int32 := if k < L then g k else 0
def ms_sk (g : Nat → Int32) : Nat → Nat → Nat
  | 0, k => k
  | t + 1, k => if g k = 10 ∨ g k = 32 then ms_sk g t (k + 1) else k
def ms_wd (g : Nat → Int32) (L : Nat) : Nat → Nat → Nat
  | 0, k => k
  | t + 1, k => if mr_lt (ms_c g L k) ∨ mr_dg (ms_c g L k) then ms_wd g L t (k + 1) else k
def ms_nm (g : Nat → Int32) (L : Nat) : Nat → Nat → Int64 → Nat × Int64
  | 0, k, v => (k, v)
  | t + 1, k, v => if mr_dg (ms_c g L k) then ms_nm g L t (k + 1) (10 * v + (ms_c g L k).toInt64 - 48) else (k, v)
def ms_ky (g : Nat → Int32) (a b : Nat) : Nat → Nat → Nat
  | 0, _ => 38
  | t + 1, j => if mr_is g a b (16 + j) then j else ms_ky g a b t (j + 1)
def ms_sg (c e : Int32) : Nat := if c = 40 then 24 else if c = 41 then 25 else if c = 91 then 26 else if c = 93 then 27 else if c = 43 then 28 else if c = 45 then 29 else if c = 42 then 30 else if c = 47 then 31 else if c = 60 then (if e = 61 then 33 else 32) else if c = 62 then (if e = 61 then 35 else 34) else if c = 61 then 36 else 40
def ms_tk (g : Nat → Int32) (L k : Nat) : ms_T :=
  if k = L then ⟨39, k, k, 0⟩
  else if mr_lt (ms_c g L k) then ⟨ms_ky g k (ms_wd g L 16 k) 24 0, k, ms_wd g L 16 k, 0⟩
  else if mr_dg (ms_c g L k) then ⟨37, k, (ms_nm g L 17 k 0).1, (ms_nm g L 17 k 0).2⟩
  else if ms_c g L k = 45 ∧ mr_dg (ms_c g L (k + 1)) then ⟨37, k, (ms_nm g L 17 (k + 1) 0).1, -(ms_nm g L 17 (k + 1) 0).2⟩
  else ⟨ms_sg (ms_c g L k) (ms_c g L (k + 1)), k, if (ms_c g L k = 60 ∨ ms_c g L k = 62) ∧ ms_c g L (k + 1) = 61 then k + 2 else k + 1, 0⟩
def ms_nx (g : Nat → Int32) (L p : Nat) : ms_T := ms_tk g L (ms_sk g (L - p) p)
/-- the kinds as the second object has them -/
def ms_ct (k : Nat) : Int32 := if k < 24 then 4 else if k = 37 then 2 else if k = 38 then 1 else if k = 39 then 0 else 3
/-- a constant's kind -/
def ms_kc (c : Nat) : Nat := ([0, 1, 2, 3, 4, 5, 6, 7, 8, 9, 10, 11, 12, 13, 14, 15, 16, 17, 18, 19, 20, 21, 22, 23, 24, 25, 28, 29, 30, 31, 35, 34, 33, 32, 36, 26, 27] : List Nat).getD (c - 16) 99
section
variable {g : Nat → Int32} {L k p a b c : Nat}
theorem ms_0 : ¬ mr_lt 0 ∧ ¬ mr_dg 0 := by decide
theorem ms_sk_le : ∀ (t k : Nat), k ≤ ms_sk g t k ∧ ms_sk g t k ≤ k + t := by
  intro t
  induction t with
  | zero => intro k; exact ⟨Nat.le_refl _, Nat.le_refl _⟩
  | succ t ih =>
    intro k
    unfold ms_sk
    split
    · have := ih (k + 1)
      omega
    · omega
theorem ms_wd_le : ∀ (t k : Nat), k ≤ L → k ≤ ms_wd g L t k ∧ ms_wd g L t k ≤ k + t ∧ ms_wd g L t k ≤ L := by
  intro t
  induction t with
  | zero => intro k h; exact ⟨Nat.le_refl _, Nat.le_refl _, h⟩
  | succ t ih =>
    intro k h
    unfold ms_wd
    split
    · rename_i hc
      have hk : k < L := by
        by_cases h' : k < L
        · exact h'
        · unfold ms_c at hc
          rw [if_neg h'] at hc
          exact absurd hc (not_or.mpr ms_0)
      have := ih (k + 1) (by omega)
      omega
    · omega
theorem ms_nm_le : ∀ (t k : Nat) (v : Int64), k ≤ L → k ≤ (ms_nm g L t k v).1 ∧ (ms_nm g L t k v).1 ≤ L := by
  intro t
  induction t with
  | zero => intro k v h; exact ⟨Nat.le_refl _, h⟩
  | succ t ih =>
    intro k v h
    unfold ms_nm
    split
    · rename_i hc
      have hk : k < L := by
        by_cases h' : k < L
        · exact h'
        · unfold ms_c at hc
          rw [if_neg h'] at hc
          exact absurd hc ms_0.2
      have := ih (k + 1) (10 * v + (ms_c g L k).toInt64 - 48) (by omega)
      omega
    · omega
theorem ms_lt_L {P : Int32 → Prop} (h0 : ¬ P 0) (h : P (ms_c g L k)) : k < L := by
  by_cases h' : k < L
  · exact h'
  · unfold ms_c at h
    rw [if_neg h'] at h
    exact absurd h h0
theorem ms_tk_le (hk : k ≤ L) : (ms_tk g L k).a = k ∧ k ≤ (ms_tk g L k).b ∧ (ms_tk g L k).b ≤ L ∧ ((ms_tk g L k).k = 39 ∧ k = L ∨ k < (ms_tk g L k).b) := by
  unfold ms_tk
  split
  · rename_i h
    exact ⟨rfl, Nat.le_refl _, hk, Or.inl ⟨rfl, h⟩⟩
  · rename_i hne
    split
    · rename_i h
      have h1 := ms_wd_le (g := g) (L := L) 15 (k + 1) (by omega)
      have e : ms_wd g L 16 k = ms_wd g L 15 (k + 1) := by
        show (if _ then _ else _) = _
        rw [if_pos (Or.inl h)]
      refine ⟨rfl, ?_, ?_, Or.inr ?_⟩
      · show k ≤ ms_wd g L 16 k
        omega
      · show ms_wd g L 16 k ≤ L
        omega
      · show k < ms_wd g L 16 k
        omega
    · split
      · rename_i h
        have h1 := ms_nm_le (g := g) (L := L) 16 (k + 1) (10 * 0 + (ms_c g L k).toInt64 - 48) (by omega)
        have e : ms_nm g L 17 k 0 = ms_nm g L 16 (k + 1) (10 * 0 + (ms_c g L k).toInt64 - 48) := by
          show (if _ then _ else _) = _
          rw [if_pos h]
        rw [e]
        refine ⟨rfl, ?_, ?_, Or.inr ?_⟩
        · show k ≤ (ms_nm g L 16 (k + 1) _).1
          omega
        · exact h1.2
        · show k < (ms_nm g L 16 (k + 1) _).1
          omega
      · split
        · rename_i h
          have hk1 : k + 1 < L := ms_lt_L (P := mr_dg) ms_0.2 h.2
          have h1 := ms_nm_le (g := g) (L := L) 17 (k + 1) 0 (by omega)
          refine ⟨rfl, ?_, ?_, Or.inr ?_⟩
          · show k ≤ (ms_nm g L 17 (k + 1) 0).1
            omega
          · exact h1.2
          · show k < (ms_nm g L 17 (k + 1) 0).1
            omega
        · refine ⟨rfl, ?_, ?_, Or.inr ?_⟩
          · show k ≤ (if (ms_c g L k = 60 ∨ ms_c g L k = 62) ∧ ms_c g L (k + 1) = 61 then k + 2 else k + 1)
            split <;> omega
          · show (if (ms_c g L k = 60 ∨ ms_c g L k = 62) ∧ ms_c g L (k + 1) = 61 then k + 2 else k + 1) ≤ L
            split
            · rename_i h
              have hk1 : k + 1 < L := ms_lt_L (P := fun c => c = 61) (by decide) h.2
              omega
            · omega
          · show k < (if (ms_c g L k = 60 ∨ ms_c g L k = 62) ∧ ms_c g L (k + 1) = 61 then k + 2 else k + 1)
            split <;> omega
theorem ms_nx_le (hp : p ≤ L) : p ≤ (ms_nx g L p).a ∧ (ms_nx g L p).a ≤ (ms_nx g L p).b ∧ (ms_nx g L p).b ≤ L ∧ ((ms_nx g L p).k = 39 ∨ (ms_nx g L p).a < (ms_nx g L p).b) := by
  have h := ms_sk_le (g := g) (L - p) p
  have h2 := ms_tk_le (g := g) (L := L) (k := ms_sk g (L - p) p) (by omega)
  unfold ms_nx
  rw [h2.1]
  refine ⟨h.1, h2.2.1, h2.2.2.1, ?_⟩
  rcases h2.2.2.2 with h3 | h3
  · exact Or.inl h3.1
  · exact Or.inr h3
theorem ms_ky_is : ∀ (t j : Nat), ms_ky g a b t j = 38 ∨ (j ≤ ms_ky g a b t j ∧ ms_ky g a b t j < j + t ∧ mr_is g a b (16 + ms_ky g a b t j)) := by
  intro t
  induction t with
  | zero => intro j; exact Or.inl rfl
  | succ t ih =>
    intro j
    unfold ms_ky
    split
    · rename_i h
      exact Or.inr ⟨Nat.le_refl _, by omega, h⟩
    · rcases ih (j + 1) with h | ⟨h1, h2, h3⟩
      · exact Or.inl h
      · exact Or.inr ⟨by omega, by omega, h3⟩
theorem ms_ky_no : ∀ (t j : Nat), ms_ky g a b t j = 38 → ∀ i, j ≤ i → i < j + t → i < 38 → ¬ mr_is g a b (16 + i) := by
  intro t
  induction t with
  | zero => intro j _ i h1 h2; omega
  | succ t ih =>
    intro j h i h1 h2 h3
    unfold ms_ky at h
    split at h
    · omega
    · rename_i hn
      by_cases e : i = j
      · subst e
        exact hn
      · exact ih (j + 1) h i (by omega) (by omega) h3
theorem ms_is_1 : ∀ c : Fin 24, ∀ e : Fin 24, mt_sl.getD (16 + c.1) 0 = mt_sl.getD (16 + e.1) 0 → (∀ k, k < mt_sl.getD (16 + c.1) 0 → st_v (16 + c.1) k = st_v (16 + e.1) k) → c = e := by decide +kernel
theorem ms_is_u {c e : Nat} (hc : 16 ≤ c ∧ c < 40) (he : 16 ≤ e ∧ e < 40) (h1 : mr_is g a b c) (h2 : mr_is g a b e) : c = e := by
  obtain ⟨c', rfl⟩ : ∃ j, c = 16 + j := ⟨c - 16, by omega⟩
  obtain ⟨e', rfl⟩ : ∃ j, e = 16 + j := ⟨e - 16, by omega⟩
  have h := ms_is_1 ⟨c', by omega⟩ ⟨e', by omega⟩ (h1.1.symm.trans h2.1) (fun k hk => (h1.2 k hk).symm.trans (h2.2 k (by have e : mt_sl.getD (16 + c') 0 = mt_sl.getD (16 + e') 0 := h1.1.symm.trans h2.1; exact e ▸ hk)))
  have := congrArg Fin.val h
  simp only at this
  omega
theorem ms_kc_k : ∀ c : Fin 24, ms_kc (16 + c.1) = c.1 := by decide +kernel
end
