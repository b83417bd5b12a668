/-! a transaction: it comes to an end in time, and there is room for what it tells -/
def mv_nk (f : Nat → Int64) : Nat → Nat
  | 0 => 0
  | t + 1 => mv_nk f t + (if f t = 0 then 0 else 1)
def mv_fl (tb : Nat → ms_N) (S : mv_S) : Nat := if (tb S.at).1 = 0 then mv_nk S.ac 32 else 32
def mv_pk (Z : mv_Z) : Prop := ∀ i, i < Z.ps.1 → (Z.ps.2 i).1 < 8 ∧ (Z.ps.2 i).2.1 < 8 ∧ (Z.ps.2 i).2.2.1 < 4 ∧ 0 < (Z.ps.2 i).2.2.2.toInt ∧ (Z.ps.2 i).2.2.2.toInt ≤ 4611686018427387904
def mv_J (tb : Nat → ms_N) (N k : Nat) (Z : mv_Z) : Prop := mv_ok Z.S ∧ mv_pk Z ∧ mz_ok tb N k 0 Z.S.at ∧ k ≤ 100 ∧ Z.ws.1 + k + mv_fl tb Z.S ≤ 132 ∧ Z.ps.1 + k + mv_fl tb Z.S ≤ 132
def mv_D (Z Z' : mv_Z) : Prop := Z'.ws.1 ≤ Z.ws.1 + 1 ∧ Z'.ps.1 ≤ Z.ps.1 + 1 ∧ mv_pk Z'
section
variable {N m k t j i op A B D x y z : Nat} {tb : Nat → ms_N} {lo hi v w : Int64} {Z Z' : mv_Z} {bd : Nat → Int64 × Int64} {I : mv_I} {wal : Bool} {R : mv_R} {S : mv_S} {f : Nat → Int64}
theorem mv_nk_le : mv_nk f t ≤ t := by
  induction t with
  | zero => exact Nat.le_refl _
  | succ t ih =>
    unfold mv_nk
    split <;> omega
theorem mv_nk_eq {g : Nat → Int64} (h : ∀ j, j < t → g j = f j) : mv_nk g t = mv_nk f t := by
  induction t with
  | zero => rfl
  | succ t ih =>
    unfold mv_nk
    rw [ih (fun j hj => h j (by omega)), h t (by omega)]
theorem mv_nk_up (hj : j < t) (hf : ¬ f j = 0) : mv_nk (va_up f j 0) t + 1 = mv_nk f t := by
  induction t with
  | zero => omega
  | succ t ih =>
    unfold mv_nk
    by_cases e : j = t
    · subst e
      rw [mv_nk_eq (f := f) (fun i hi => va_ne (by omega)), va_eq, if_pos rfl, if_neg hf]
    · rw [va_ne (by omega : ¬ t = j)]
      have := ih (by omega)
      omega
theorem mv_fl_le : mv_fl tb S ≤ 32 := by
  unfold mv_fl
  split
  · exact mv_nk_le
  · exact Nat.le_refl _
theorem mz_ok_le {s a b : Nat} (hab : a ≤ b) (h : mz_ok tb N a s m) : mz_ok tb N b s m := by
  induction hab with
  | refl => exact h
  | step _ ih => exact mz_ok.mono _ s m ih
theorem mv_wn_c : (Z.wn i j).ws.1 ≤ Z.ws.1 + 1 := by
  unfold mv_Z.wn
  split
  · exact Nat.le_refl _
  · exact Nat.le_succ _
theorem mv_wn_p : (Z.wn i j).ps = Z.ps := by
  unfold mv_Z.wn
  split <;> rfl
theorem mv_py_c : (Z.py i j k v).ps.1 ≤ Z.ps.1 + 1 := by
  unfold mv_Z.py
  split
  · exact Nat.le_refl _
  · exact Nat.le_succ _
theorem mv_py_w : (Z.py i j k v).ws = Z.ws := by
  unfold mv_Z.py
  split <;> rfl
theorem mv_pk_py (h : mv_pk Z) (hi : i < 8) (hj : j < 8) (hk : k < 4) (h1 : 0 < v.toInt) (h2 : v.toInt ≤ 4611686018427387904) : mv_pk (Z.py i j k v) := by
  unfold mv_Z.py
  split
  · intro l hl
    show ((va_up Z.ps.2 Z.ps.1 (i, j, k, v)) l).1 < 8 ∧ ((va_up Z.ps.2 Z.ps.1 (i, j, k, v)) l).2.1 < 8 ∧ ((va_up Z.ps.2 Z.ps.1 (i, j, k, v)) l).2.2.1 < 4 ∧ 0 < ((va_up Z.ps.2 Z.ps.1 (i, j, k, v)) l).2.2.2.toInt ∧ ((va_up Z.ps.2 Z.ps.1 (i, j, k, v)) l).2.2.2.toInt ≤ 4611686018427387904
    by_cases e : l = Z.ps.1
    · subst e
      rw [va_eq]
      exact ⟨hi, hj, hk, h1, h2⟩
    · rw [va_ne e]
      have hl : l < Z.ps.1 + 1 := hl
      exact h l (by omega)
  · exact h
theorem mv_pk_wn (h : mv_pk Z) : mv_pk (Z.wn i j) := by
  intro l hl
  rw [mv_wn_p] at *
  exact h l hl
theorem mv_nz0 (h0 : 0 ≤ v.toInt) (h : ¬ v = 0) : 0 < v.toInt := by
  rcases Int.lt_or_eq_of_le h0 with h1 | h1
  · exact h1
  · exact absurd (Int64.toInt_inj.mp (h1.symm.trans (by decide))) h
theorem mv_p1_D (h : mv_pk Z) : (mv_p1 A D y m Z v).ws.1 ≤ Z.ws.1 + 1 ∧ (mv_p1 A D y m Z v).ps = Z.ps := by
  unfold mv_p1
  dsimp only
  split
  · exact ⟨mv_wn_c (Z := (Z.go y).ac (A * 4 + D) _), mv_wn_p (Z := (Z.go y).ac (A * 4 + D) _)⟩
  · exact ⟨Nat.le_succ _, rfl⟩
theorem mv_pay_D (hS : mv_ok Z.S) (hp : mv_pk Z) (hA : A < 8) (hB : B < 8) (hD : D < 4) : mv_D Z (mv_pay op A B D y m Z v).1 := by
  unfold mv_pay
  by_cases hv : v ≤ 0
  · rw [if_pos hv]
    exact ⟨mv_wn_c (Z := Z.go y), by rw [mv_wn_p]; exact Nat.le_succ _, mv_pk_wn (Z := Z.go y) hp⟩
  · rw [if_neg hv]
    have h1 := mv_p1_D (A := A) (D := D) (y := y) (m := m) (v := v) hp
    have hk := hS.1 (A * 4 + D)
    have hx := mv_min_i hv hk.1
    generalize mv_p1 A D y m Z v = Z1 at *
    generalize mv_min v (Z.S.ac (A * 4 + D)) = x at *
    have hp1 : mv_pk Z1 := by
      intro l hl
      rw [h1.2] at *
      exact hp l hl
    unfold mv_p2
    by_cases ho : op = 1
    · rw [if_pos ho]
      dsimp only
      split
      · exact ⟨h1.1, by rw [h1.2]; exact Nat.le_succ _, hp1⟩
      · rename_i h0
        refine ⟨by rw [mv_py_w]; exact h1.1, ?_, mv_pk_py hp1 hA hB hD (mv_nz0 hx.1 h0) (by omega)⟩
        have := mv_py_c (Z := Z1) (i := A) (j := B) (k := D) (v := x)
        rw [h1.2] at this
        exact this
    · rw [if_neg ho]
      exact ⟨h1.1, by show Z1.ps.1 ≤ _; rw [h1.2]; exact Nat.le_succ _, hp1⟩
theorem mv_ff_le : ∀ (t k : Nat), mv_ff f t k ≤ k + t := by
  intro t
  induction t with
  | zero =>
    intro k
    exact Nat.le_refl _
  | succ t ih =>
    intro k
    unfold mv_ff
    split
    · have := ih (k + 1)
      omega
    · omega
theorem mv_ff_ne : ∀ (t k : Nat), ¬ mv_ff f t k = k + t → ¬ f (mv_ff f t k) = 0 := by
  intro t
  induction t with
  | zero =>
    intro k h
    exact absurd rfl h
  | succ t ih =>
    intro k h
    have h2 : mv_ff f (t + 1) k = if f k = 0 then mv_ff f t (k + 1) else k := rfl
    rw [h2] at h ⊢
    by_cases hf : f k = 0
    · rw [if_pos hf] at h ⊢
      exact ih (k + 1) (by omega)
    · rw [if_neg hf]
      exact hf
theorem mv_ff_0 : ∀ (t k : Nat), mv_ff f t k = k + t → ∀ j, k ≤ j → j < k + t → f j = 0 := by
  intro t
  induction t with
  | zero =>
    intro k _ j h1 h2
    omega
  | succ t ih =>
    intro k h j h1 h2
    unfold mv_ff at h
    split at h
    · by_cases e : j = k
      · subst e
        assumption
      · exact ih (k + 1) (by omega) j (by omega) (by omega)
    · omega
theorem mv_step_J (ht : mv_tok tb) (h : mv_J tb N k Z) (hs : mv_step tb lo hi Z = .ok (some Z')) : ∃ k', mv_J tb N k' Z' ∧ k' + mv_fl tb Z'.S + 1 ≤ k + mv_fl tb Z.S ∧ k' ≤ k ∧ ((tb Z.S.at).1 = 0 ∧ Z'.S.at = Z.S.at ∨ k' < k) := by
  obtain ⟨hS, hp, hk, h100, hw1, hp1⟩ := h
  cases k with
  | zero => exact absurd hk (by intro h; exact h)
  | succ k =>
  have hok := mv_step_ok hS ht (mz_ok_le h100 hk) hs
  obtain ⟨-, hso, had, hx, -, hy, hz⟩ := mz_un hk
  unfold mv_step at hs
  rcases hcm : tb Z.S.at with ⟨op, A, B, D, v, x, y, z, u⟩
  have hfl : mv_fl tb Z.S = if op = 0 then mv_nk Z.S.ac 32 else 32 := by
    unfold mv_fl
    rw [hcm]
  rw [hcm] at hs hso had hx hy hz
  dsimp only at hso hx hy hz
  have h33 := mz_so33 hso (by decide)
  have ho := mz_so0 ⟨op, h33⟩ hso
  dsimp only at ho
  generalize mv_E tb Z.S lo hi 100 = R at *
  have fin : ∀ {Z' : mv_Z}, mv_ok Z'.S → ¬ op = 0 → mv_D Z Z' → mz_ok tb N k 0 Z'.S.at → ∃ k', mv_J tb N k' Z' ∧ k' + mv_fl tb Z'.S + 1 ≤ k + 1 + mv_fl tb Z.S ∧ k' ≤ k + 1 ∧ (op = 0 ∧ Z'.S.at = Z.S.at ∨ k' < k + 1) := by
    intro Z' hS' hne hd hk'
    rw [if_neg hne] at hfl
    have := mv_fl_le (tb := tb) (S := Z'.S)
    have h1 := hd.1
    have h2 := hd.2.1
    exact ⟨k, ⟨hS', hd.2.2, hk', by omega, by omega, by omega⟩, by omega, by omega, Or.inr (by omega)⟩
  rcases ho with rfl | rfl | rfl | rfl | rfl | rfl | rfl
  · rw [mv_s1_0] at hs
    split at hs
    · cases hs
    · rename_i h32
      cases hs
      have hne := mv_ff_ne (f := Z.S.ac) 32 0 (by omega)
      have hle := mv_ff_le (f := Z.S.ac) 32 0
      generalize mv_ff Z.S.ac 32 0 = c at *
      rw [if_pos rfl] at hfl
      have hat : (mv_cl Z c).S.at = Z.S.at := by
        unfold mv_cl
        show (Z.py _ _ _ _).S.at = _
        rw [mv_py_S]
      have hac : (mv_cl Z c).S.ac = va_up Z.S.ac c 0 := by
        unfold mv_cl
        show va_up (Z.py _ _ _ _).S.ac c 0 = _
        rw [mv_py_S]
      have hfl' : mv_fl tb (mv_cl Z c).S = mv_nk (va_up Z.S.ac c 0) 32 := by
        unfold mv_fl
        rw [hat, hcm, if_pos rfl, hac]
      have hn1 := mv_nk_up (f := Z.S.ac) (j := c) (t := 32) (by omega) hne
      have hws : (mv_cl Z c).ws = Z.ws := by
        unfold mv_cl
        show (Z.py _ _ _ _).ws = _
        exact mv_py_w
      have hps : (mv_cl Z c).ps.1 ≤ Z.ps.1 + 1 := by
        unfold mv_cl
        exact mv_py_c
      have hcb := hS.1 c
      refine ⟨k + 1, ⟨hok.1, ?_, by rw [hat]; exact hk, h100, by rw [hws]; omega, by omega⟩, by omega, Nat.le_refl _, Or.inl ⟨rfl, hat⟩⟩
      unfold mv_cl
      exact mv_pk_py hp (by omega) (by omega) (by omega) (mv_nz0 hcb.1 hne) hcb.2
  · rw [mv_s1_1] at hs
    cases hv : R.1 x with
    | none =>
      rw [hv] at hs
      cases hs
    | some w =>
      rw [hv] at hs
      dsimp only at hs
      split at hs
      · rename_i hb
        cases hs
        exact fin hok.1 (by decide) (mv_pay_D hS hp (had.1 (by show mz_t 0 1 = true; decide)) (had.2.1 (by show mz_t 1 1 = true; decide)) (had.2.2 (by show mz_t 2 1 = true; decide))) (by rw [(mv_pay_ok hS hb).2]; exact (hy (by decide)).2)
      · cases hs
  · rw [mv_s1_2] at hs
    cases hv : R.1 x with
    | none =>
      rw [hv] at hs
      cases hs
    | some w =>
      rw [hv] at hs
      dsimp only at hs
      split at hs
      · rename_i hb
        cases hs
        exact fin hok.1 (by decide) (mv_pay_D hS hp (had.1 (by show mz_t 0 2 = true; decide)) (had.2.1 (by show mz_t 1 2 = true; decide)) (had.2.2 (by show mz_t 2 2 = true; decide))) (by rw [(mv_pay_ok hS hb).2]; exact (hy (by decide)).2)
      · cases hs
  · rw [mv_s1_3] at hs
    cases hv : R.2 x with
    | none =>
      rw [hv] at hs
      cases hs
    | some b =>
      rw [hv] at hs
      cases hs
      refine fin hok.1 (by decide) ⟨Nat.le_succ _, Nat.le_succ _, hp⟩ ?_
      show mz_ok tb N k 0 (if b = true then y else z)
      split
      · exact (hy (by decide)).2
      · exact (hz (by decide)).2
  · rw [mv_s1_4] at hs
    split at hs
    · cases hs
    · split at hs
      · cases hs
      · cases hs
        exact fin hok.1 (by decide) ⟨Nat.le_succ _, Nat.le_succ _, hp⟩ (hy (by decide)).2
  · rw [mv_s1_5] at hs
    cases hv : R.1 x with
    | none =>
      rw [hv] at hs
      cases hs
    | some w =>
      rw [hv] at hs
      cases hs
      refine fin hok.1 (by decide) ?_ (hy (by decide)).2
      unfold mv_let
      dsimp only
      split
      · exact ⟨mv_wn_c, by show (Z.wn 4 Z.S.at).ps.1 ≤ _; rw [mv_wn_p]; exact Nat.le_succ _, mv_pk_wn (Z := Z) hp⟩
      · exact ⟨Nat.le_succ _, Nat.le_succ _, hp⟩
  · rw [mv_s1_6] at hs
    cases hv : R.2 x with
    | none =>
      rw [hv] at hs
      cases hs
    | some b =>
      rw [hv] at hs
      cases hs
      refine fin hok.1 (by decide) ?_ (hy (by decide)).2
      unfold mv_ass
      split
      · exact ⟨Nat.le_succ _, Nat.le_succ _, hp⟩
      · exact ⟨mv_wn_c, by show (Z.wn 5 Z.S.at).ps.1 ≤ _; rw [mv_wn_p]; exact Nat.le_succ _, mv_pk_wn (Z := Z) hp⟩
end
