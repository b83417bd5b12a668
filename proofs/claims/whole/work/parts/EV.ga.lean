/-! a node and its parts are one stretch -/
def mo_sh (op : Nat) : Nat := ([9, 9, 9, 9, 9, 9, 9, 9, 9, 9, 0, 0, 1, 2, 2, 2, 2, 0, 0, 0, 0, 3, 0, 0, 2, 2, 1, 0, 2, 2, 2, 2, 2] : List Nat).getD op 9
def mo_v (tb : Nat → ms_N) : Nat → Nat → Nat → Prop
  | 0, _, _ => False
  | k + 1, m, e => (mo_sh (tb m).1 = 0 ∧ e = m + 1) ∨ (mo_sh (tb m).1 = 1 ∧ (tb m).2.2.2.2.2.1 = m + 1 ∧ mo_v tb k (m + 1) e) ∨ (mo_sh (tb m).1 = 2 ∧ (tb m).2.2.2.2.2.1 = m + 1 ∧ mo_v tb k (m + 1) (tb m).2.2.2.2.2.2.1 ∧ mo_v tb k (tb m).2.2.2.2.2.2.1 e) ∨ (mo_sh (tb m).1 = 3 ∧ (tb m).2.2.2.2.2.1 = m + 1 ∧ mo_v tb k (m + 1) (tb m).2.2.2.2.2.2.1 ∧ mo_v tb k (tb m).2.2.2.2.2.2.1 (tb m).2.2.2.2.2.2.2.1 ∧ mo_v tb k (tb m).2.2.2.2.2.2.2.1 e)
def mo_a (tb : Nat → ms_N) (V C : Nat → Nat → Prop) : Nat → Nat → Nat → Nat → Prop
  | 0, x, s, e => x = 0 ∧ e = s
  | t + 1, x, s, e => (x = 0 ∧ e = s) ∨ (x = s ∧ 0 < s ∧ (((tb s).1 = 8 ∧ (tb s).2.2.2.2.2.2.1 = s + 1) ∨ (((tb s).1 = 7 ∨ (tb s).1 = 9) ∧ (tb s).2.2.2.2.2.1 = s + 1 ∧ V (s + 1) (tb s).2.2.2.2.2.2.1)) ∧ ∃ e2, C (tb s).2.2.2.2.2.2.1 e2 ∧ mo_a tb V C t (tb s).2.2.2.2.2.2.2.1 e2 e)
def mo_c (tb : Nat → ms_N) : Nat → Nat → Nat → Prop
  | 0, _, _ => False
  | k + 1, m, e => ((tb m).1 = 0 ∧ e = m + 1) ∨ (((tb m).1 = 1 ∨ (tb m).1 = 2 ∨ (tb m).1 = 5 ∨ (tb m).1 = 6) ∧ (tb m).2.2.2.2.2.1 = m + 1 ∧ mo_v tb k (m + 1) (tb m).2.2.2.2.2.2.1 ∧ mo_c tb k (tb m).2.2.2.2.2.2.1 e) ∨ ((tb m).1 = 3 ∧ (tb m).2.2.2.2.2.1 = m + 1 ∧ mo_v tb k (m + 1) (tb m).2.2.2.2.2.2.1 ∧ mo_c tb k (tb m).2.2.2.2.2.2.1 (tb m).2.2.2.2.2.2.2.1 ∧ mo_c tb k (tb m).2.2.2.2.2.2.2.1 e) ∨ ((tb m).1 = 4 ∧ mo_a tb (mo_v tb k) (mo_c tb k) 8 (tb m).2.2.2.2.2.1 (m + 1) (tb m).2.2.2.2.2.2.1 ∧ mo_c tb k (tb m).2.2.2.2.2.2.1 e)
section
variable {tb tb' : Nat → ms_N} {k m e t x s : Nat}
theorem mo_v_lt : ∀ (k m e : Nat), mo_v tb k m e → m < e := by
  intro k
  induction k with
  | zero =>
    intro m e h
    exact h.elim
  | succ k ih =>
    intro m e h
    rcases h with ⟨-, h⟩ | ⟨-, -, h⟩ | ⟨-, -, h1, h2⟩ | ⟨-, -, h1, h2, h3⟩
    · omega
    · have := ih _ _ h
      omega
    · have := ih _ _ h1
      have := ih _ _ h2
      omega
    · have := ih _ _ h1
      have := ih _ _ h2
      have := ih _ _ h3
      omega
theorem mo_v_mono : ∀ (k m e : Nat), mo_v tb k m e → mo_v tb (k + 1) m e := by
  intro k
  induction k with
  | zero =>
    intro m e h
    exact h.elim
  | succ k ih =>
    intro m e h
    rcases h with h | ⟨h1, h2, h⟩ | ⟨h1, h2, h3, h4⟩ | ⟨h1, h2, h3, h4, h5⟩
    · exact Or.inl h
    · exact Or.inr (Or.inl ⟨h1, h2, ih _ _ h⟩)
    · exact Or.inr (Or.inr (Or.inl ⟨h1, h2, ih _ _ h3, ih _ _ h4⟩))
    · exact Or.inr (Or.inr (Or.inr ⟨h1, h2, ih _ _ h3, ih _ _ h4, ih _ _ h5⟩))
theorem mo_v_to : ∀ (k m e : Nat), (∀ i, m ≤ i → i < e → tb' i = tb i) → mo_v tb k m e → mo_v tb' k m e := by
  intro k
  induction k with
  | zero =>
    intro m e _ h
    exact h.elim
  | succ k ih =>
    intro m e ht h
    have hlt := mo_v_lt (k + 1) m e h
    have hm := ht m (Nat.le_refl _) hlt
    unfold mo_v
    rw [hm]
    rcases h with h | ⟨h1, h2, h⟩ | ⟨h1, h2, h3, h4⟩ | ⟨h1, h2, h3, h4, h5⟩
    · exact Or.inl h
    · exact Or.inr (Or.inl ⟨h1, h2, ih _ _ (fun i hi1 hi2 => ht i (by omega) hi2) h⟩)
    · have l3 := mo_v_lt _ _ _ h3
      have l4 := mo_v_lt _ _ _ h4
      exact Or.inr (Or.inr (Or.inl ⟨h1, h2, ih _ _ (fun i hi1 hi2 => ht i (by omega) (by omega)) h3, ih _ _ (fun i hi1 hi2 => ht i (by omega) hi2) h4⟩))
    · have l3 := mo_v_lt _ _ _ h3
      have l4 := mo_v_lt _ _ _ h4
      have l5 := mo_v_lt _ _ _ h5
      exact Or.inr (Or.inr (Or.inr ⟨h1, h2, ih _ _ (fun i hi1 hi2 => ht i (by omega) (by omega)) h3, ih _ _ (fun i hi1 hi2 => ht i (by omega) (by omega)) h4, ih _ _ (fun i hi1 hi2 => ht i (by omega) hi2) h5⟩))
theorem mo_a_le {V C : Nat → Nat → Prop} (hV : ∀ m e, V m e → m < e) (hC : ∀ m e, C m e → m < e) : ∀ (t x s e : Nat), mo_a tb V C t x s e → s ≤ e := by
  intro t
  induction t with
  | zero =>
    intro x s e h
    have := h.2
    omega
  | succ t ih =>
    intro x s e h
    rcases h with ⟨-, h⟩ | ⟨-, -, h1, e2, h2, h3⟩
    · omega
    · have l2 := hC _ _ h2
      have l3 := ih _ _ _ h3
      rcases h1 with ⟨-, h1⟩ | ⟨-, -, h1⟩
      · omega
      · have := hV _ _ h1
        omega
theorem mo_a_mono {V V' C C' : Nat → Nat → Prop} (hV : ∀ m e, V m e → V' m e) (hC : ∀ m e, C m e → C' m e) : ∀ (t x s e : Nat), mo_a tb V C t x s e → mo_a tb V' C' t x s e := by
  intro t
  induction t with
  | zero =>
    intro x s e h
    exact h
  | succ t ih =>
    intro x s e h
    rcases h with h | ⟨h0, h00, h1, e2, h2, h3⟩
    · exact Or.inl h
    · exact Or.inr ⟨h0, h00, h1.elim Or.inl (fun h => Or.inr ⟨h.1, h.2.1, hV _ _ h.2.2⟩), e2, hC _ _ h2, ih _ _ _ h3⟩
theorem mo_a_to {V V' C C' : Nat → Nat → Prop} {lo : Nat} (hVl : ∀ m e, V m e → m < e) (hCl : ∀ m e, C m e → m < e) : ∀ (t x s e : Nat), (∀ i, s ≤ i → i < e → tb' i = tb i) → (∀ m e', s ≤ m → e' ≤ e → V m e' → V' m e') → (∀ m e', s ≤ m → e' ≤ e → C m e' → C' m e') → mo_a tb V C t x s e → mo_a tb' V' C' t x s e := by
  intro t
  induction t with
  | zero =>
    intro x s e _ _ _ h
    exact h
  | succ t ih =>
    intro x s e ht hV hC h
    have hse := mo_a_le hVl hCl (t + 1) x s e h
    rcases h with h | ⟨h0, h00, h1, e2, h2, h3⟩
    · exact Or.inl h
    · have l2 := hCl _ _ h2
      have l3 := mo_a_le hVl hCl _ _ _ _ h3
      have l1 : s < (tb s).2.2.2.2.2.2.1 := by
        rcases h1 with ⟨-, h1⟩ | ⟨-, -, h1⟩
        · omega
        · have := hVl _ _ h1
          omega
      have hs := ht s (Nat.le_refl _) (by omega)
      unfold mo_a
      rw [hs]
      refine Or.inr ⟨h0, h00, h1.elim Or.inl (fun h => Or.inr ⟨h.1, h.2.1, hV _ _ (by omega) (by omega) h.2.2⟩), e2, hC _ _ (by omega) (by omega) h2, ih _ _ _ (fun i h1 h2 => ht i (by omega) h2) (fun m e' h1 h2 => hV m e' (by omega) h2) (fun m e' h1 h2 => hC m e' (by omega) h2) h3⟩
theorem mo_c_lt : ∀ (k m e : Nat), mo_c tb k m e → m < e := by
  intro k
  induction k with
  | zero =>
    intro m e h
    exact h.elim
  | succ k ih =>
    intro m e h
    rcases h with ⟨-, h⟩ | ⟨-, -, h1, h2⟩ | ⟨-, -, h1, h2, h3⟩ | ⟨-, h1, h2⟩
    · omega
    · have := mo_v_lt _ _ _ h1
      have := ih _ _ h2
      omega
    · have := mo_v_lt _ _ _ h1
      have := ih _ _ h2
      have := ih _ _ h3
      omega
    · have := mo_a_le (mo_v_lt k) ih _ _ _ _ h1
      have := ih _ _ h2
      omega
theorem mo_c_mono : ∀ (k m e : Nat), mo_c tb k m e → mo_c tb (k + 1) m e := by
  intro k
  induction k with
  | zero =>
    intro m e h
    exact h.elim
  | succ k ih =>
    intro m e h
    rcases h with h | ⟨h1, h2, h3, h4⟩ | ⟨h1, h2, h3, h4, h5⟩ | ⟨h1, h2, h3⟩
    · exact Or.inl h
    · exact Or.inr (Or.inl ⟨h1, h2, mo_v_mono _ _ _ h3, ih _ _ h4⟩)
    · exact Or.inr (Or.inr (Or.inl ⟨h1, h2, mo_v_mono _ _ _ h3, ih _ _ h4, ih _ _ h5⟩))
    · exact Or.inr (Or.inr (Or.inr ⟨h1, mo_a_mono (mo_v_mono k) ih _ _ _ _ h2, ih _ _ h3⟩))
theorem mo_c_to : ∀ (k m e : Nat), (∀ i, m ≤ i → i < e → tb' i = tb i) → mo_c tb k m e → mo_c tb' k m e := by
  intro k
  induction k with
  | zero =>
    intro m e _ h
    exact h.elim
  | succ k ih =>
    intro m e ht h
    have hlt := mo_c_lt (k + 1) m e h
    have hm := ht m (Nat.le_refl _) hlt
    unfold mo_c
    rw [hm]
    rcases h with h | ⟨h1, h2, h3, h4⟩ | ⟨h1, h2, h3, h4, h5⟩ | ⟨h1, h2, h3⟩
    · exact Or.inl h
    · have l3 := mo_v_lt _ _ _ h3
      have l4 := mo_c_lt _ _ _ h4
      exact Or.inr (Or.inl ⟨h1, h2, mo_v_to _ _ _ (fun i hi1 hi2 => ht i (by omega) (by omega)) h3, ih _ _ (fun i hi1 hi2 => ht i (by omega) hi2) h4⟩)
    · have l3 := mo_v_lt _ _ _ h3
      have l4 := mo_c_lt _ _ _ h4
      have l5 := mo_c_lt _ _ _ h5
      exact Or.inr (Or.inr (Or.inl ⟨h1, h2, mo_v_to _ _ _ (fun i hi1 hi2 => ht i (by omega) (by omega)) h3, ih _ _ (fun i hi1 hi2 => ht i (by omega) (by omega)) h4, ih _ _ (fun i hi1 hi2 => ht i (by omega) hi2) h5⟩))
    · have l2 := mo_a_le (mo_v_lt k) (mo_c_lt k) _ _ _ _ h2
      have l3 := mo_c_lt _ _ _ h3
      refine Or.inr (Or.inr (Or.inr ⟨h1, mo_a_to (lo := 0) (mo_v_lt k) (mo_c_lt k) _ _ _ _ (fun i hi1 hi2 => ht i (by omega) (by omega)) (fun m' e' g1 g2 g => mo_v_to _ _ _ (fun i hi1 hi2 => ht i (by omega) (by omega)) g) (fun m' e' g1 g2 g => ih _ _ (fun i hi1 hi2 => ht i (by omega) (by omega)) g) h2, ih _ _ (fun i hi1 hi2 => ht i (by omega) hi2) h3⟩))
end
