/-! THE SMALL MACHINE ALONE: what a run comes to (total), by rules -/
theorem mi_x_up : ∀ (n d y pc : Nat) (ls : mi_L) (st : List Value) (h : mi_H) (r : (Option Value ⊕ Nat) × mi_H), mi_x n d y pc ls st h = some r → ∀ n' d', n ≤ n' → d ≤ d' → mi_x n' d' y pc ls st h = some r := by
  intro n
  induction n with
  | zero => intro d y pc ls st h r hr; cases hr
  | succ n ih =>
    intro d y pc ls st h r hr n' d' hn hd
    obtain ⟨n', rfl⟩ : ∃ k, n' = k + 1 := ⟨n' - 1, by omega⟩
    have hn' : n ≤ n' := by omega
    simp only [mi_x] at hr ⊢
    cases hcd : mt_cd y pc with
    | none => rw [hcd] at hr; cases hr
    | some i =>
      rw [hcd] at hr
      dsimp only at hr ⊢
      cases hs : mi_s y i pc ls st h with
      | some q =>
        obtain ⟨pc', ls', st', h1⟩ := q
        rw [hs] at hr
        exact ih _ _ _ _ _ _ _ hr _ _ hn' hd
      | none =>
        rw [hs] at hr
        dsimp only at hr ⊢
        cases he : mi_e (mt_rt y) i st with
        | some v => rw [he] at hr; exact hr
        | none =>
          rw [he] at hr
          dsimp only at hr ⊢
          cases ht : mi_t y pc i st h with
          | some h1 => rw [ht] at hr; exact hr
          | none =>
            rw [ht] at hr
            dsimp only at hr ⊢
            cases hi : mi_i y i st h with
            | none => rw [hi] at hr; cases hr
            | some q =>
              obtain ⟨y2, as, rest⟩ := q
              rw [hi] at hr
              dsimp only at hr ⊢
              cases d with
              | zero => cases hr
              | succ d =>
                obtain ⟨d', rfl⟩ : ∃ k, d' = k + 1 := ⟨d' - 1, by omega⟩
                dsimp only at hr ⊢
                cases hc : mi_x n d y2 0 (mi_en (mt_ml y2) as) [] h with
                | none => rw [hc] at hr; cases hr
                | some q =>
                  obtain ⟨o1, h1⟩ := q
                  rw [hc] at hr
                  rw [ih _ _ _ _ _ _ _ hc n' d' hn' (by omega)]
                  cases o1 with
                  | inl v =>
                    dsimp only at hr ⊢
                    exact ih _ _ _ _ _ _ _ hr _ _ hn' hd
                  | inr x =>
                    dsimp only at hr ⊢
                    split at hr
                    · rename_i ce fs hcx
                      split at hr
                      · rename_i hx1
                        rw [if_pos hx1]
                        split at hr
                        · rename_i hp hhf
                          exact ih _ _ _ _ _ _ _ hr _ _ hn' hd
                        · exact hr
                        · cases hr
                      · cases hr
                    · cases hr
/-- the run comes to an end, and Q holds of it -/
def mi_W (d y pc : Nat) (ls : mi_L) (st : List Value) (h : mi_H) (Q : (Option Value ⊕ Nat) → mi_H → Prop) : Prop := ∃ n o h', mi_x n d y pc ls st h = some (o, h') ∧ Q o h'
section
variable {d d' y y2 pc pc' : Nat} {ls ls' : mi_L} {st st' as rest : List Value} {h h' : mi_H} {Q Q' : (Option Value ⊕ Nat) → mi_H → Prop} {i : Instr}
theorem mi_W.mono (hq : ∀ o h', Q o h' → Q' o h') (k : mi_W d y pc ls st h Q) : mi_W d y pc ls st h Q' := by
  obtain ⟨n, o, h', h1, h2⟩ := k
  exact ⟨n, o, h', h1, hq _ _ h2⟩
theorem mi_W.up (k : mi_W d y pc ls st h Q) (hd : d ≤ d') : mi_W d' y pc ls st h Q := by
  obtain ⟨n, o, h', h1, h2⟩ := k
  exact ⟨n, o, h', mi_x_up _ _ _ _ _ _ _ _ h1 _ _ (Nat.le_refl _) hd, h2⟩
theorem mi_W.s (hc : mt_cd y pc = some i) (hs : mi_s y i pc ls st h = some (pc', ls', st', h')) (k : mi_W d y pc' ls' st' h' Q) : mi_W d y pc ls st h Q := by
  obtain ⟨n, o, h', h1, h2⟩ := k
  refine ⟨n + 1, o, h', ?_, h2⟩
  simp only [mi_x, hc, hs]
  exact h1
theorem mi_W.e {v : Option Value} (hc : mt_cd y pc = some i) (hs : mi_s y i pc ls st h = none) (he : mi_e (mt_rt y) i st = some v) (hq : Q (.inl v) h) : mi_W d y pc ls st h Q :=
  ⟨1, _, _, by simp only [mi_x, hc, hs, he], hq⟩
theorem mi_W.t (hc : mt_cd y pc = some i) (hs : mi_s y i pc ls st h = none) (he : mi_e (mt_rt y) i st = none) (ht : mi_t y pc i st h = some h') (hq : Q (.inr h.1) h') : mi_W d y pc ls st h Q :=
  ⟨1, _, _, by simp only [mi_x, hc, hs, he, ht], hq⟩
/-- an exception x comes to the instruction at pc -/
def mi_Cx (d y pc : Nat) (ls : mi_L) (Q : (Option Value ⊕ Nat) → mi_H → Prop) (x : Nat) (h : mi_H) : Prop := ∃ ce fs, h.2.2 x = .inr (ce, fs) ∧ x < h.1 ∧ ((∃ hp, mi_hf (mt_oc y) pc ce (mt_hd y) = some (some hp) ∧ mi_W (d + 1) y hp ls [.ref x] h Q) ∨ (mi_hf (mt_oc y) pc ce (mt_hd y) = some none ∧ Q (.inr x) h))
/-- what a callee's end leads to -/
def mi_Kc (d y pc : Nat) (ls : mi_L) (rest : List Value) (Q : (Option Value ⊕ Nat) → mi_H → Prop) (o : Option Value ⊕ Nat) (h : mi_H) : Prop := match o with
  | .inl v => mi_W (d + 1) y (pc + 3) ls (v.toList ++ rest) h Q
  | .inr x => mi_Cx d y pc ls Q x h
theorem mi_W.c (hc : mt_cd y pc = some i) (hs : mi_s y i pc ls st h = none) (he : mi_e (mt_rt y) i st = none) (ht : mi_t y pc i st h = none) (hi : mi_i y i st h = some (y2, as, rest)) (k : mi_W d y2 0 (mi_en (mt_ml y2) as) [] h (mi_Kc d y pc ls rest Q)) : mi_W (d + 1) y pc ls st h Q := by
  obtain ⟨n, o, h1, h2, h3⟩ := k
  cases o with
  | inl v =>
    obtain ⟨n', o', h', h4, h5⟩ := h3
    refine ⟨(n + n') + 1, o', h', ?_, h5⟩
    simp only [mi_x, hc, hs, he, ht, hi]
    rw [mi_x_up _ _ _ _ _ _ _ _ h2 (n + n') d (by omega) (Nat.le_refl _)]
    exact mi_x_up _ _ _ _ _ _ _ _ h4 _ _ (by omega) (Nat.le_refl _)
  | inr x =>
    obtain ⟨ce, fs, g1, g2, g3⟩ := h3
    rcases g3 with ⟨hp, g3, n', o', h', h4, h5⟩ | ⟨g3, g4⟩
    · refine ⟨(n + n') + 1, o', h', ?_, h5⟩
      simp only [mi_x, hc, hs, he, ht, hi]
      rw [mi_x_up _ _ _ _ _ _ _ _ h2 (n + n') d (by omega) (Nat.le_refl _)]
      simp only [g1, if_pos g2, g3]
      exact mi_x_up _ _ _ _ _ _ _ _ h4 _ _ (by omega) (Nat.le_refl _)
    · refine ⟨n + 1, _, _, ?_, g4⟩
      simp only [mi_x, hc, hs, he, ht, hi, h2, g1, if_pos g2, g3]
/-- several simple steps -/
def mi_r : Nat → Nat → Nat → mi_L → List Value → mi_H → Option (Nat × mi_L × List Value × mi_H)
  | 0, _, pc, ls, st, h => some (pc, ls, st, h)
  | k + 1, y, pc, ls, st, h => match mt_cd y pc with
    | none => none
    | some i => match mi_s y i pc ls st h with
      | none => none
      | some (pc', ls', st', h') => mi_r k y pc' ls' st' h'
theorem mi_W.r : ∀ (k : Nat) {pc : Nat} {ls : mi_L} {st : List Value} {h : mi_H}, mi_r k y pc ls st h = some (pc', ls', st', h') → mi_W d y pc' ls' st' h' Q → mi_W d y pc ls st h Q := by
  intro k
  induction k with
  | zero => intro pc ls st h hr kk; cases hr; exact kk
  | succ k ih =>
    intro pc ls st h hr kk
    simp only [mi_r] at hr
    split at hr
    · cases hr
    · rename_i i hc
      split at hr
      · cases hr
      · rename_i pc1 ls1 st1 h1 hs
        exact mi_W.s hc hs (ih hr kk)
theorem mi_W.app {Q1 : (Option Value ⊕ Nat) → mi_H → Prop} (k : mi_W d y pc ls st h Q1) (hd : d ≤ d') (hq : ∀ o h', Q1 o h' → Q o h') : mi_W d' y pc ls st h Q := (k.mono hq).up hd
end
/-! the instruction at a place: a method's rows go up -/
def mt_inc : Nat → List (Nat × Instr × Nat) → Bool
  | _, [] => true
  | b, q :: r => Nat.ble b q.1 && mt_inc (q.1 + 1) r
theorem mt_inc_ge : ∀ (l : List (Nat × Instr × Nat)) (b : Nat), mt_inc b l = true → ∀ q ∈ l, b ≤ q.1 := by
  intro l
  induction l with
  | nil => intro b _ q hq; cases hq
  | cons a r ih =>
    intro b h q hq
    simp only [mt_inc, Bool.and_eq_true] at h
    have h1 := Nat.le_of_ble_eq_true h.1
    rcases List.mem_cons.mp hq with rfl | hq
    · exact h1
    · have := ih _ h.2 q hq
      omega
theorem mt_inc_find : ∀ (l : List (Nat × Instr × Nat)) (b : Nat), mt_inc b l = true → ∀ q ∈ l, l.find? (fun z => z.1 == q.1) = some q := by
  intro l
  induction l with
  | nil => intro b _ q hq; cases hq
  | cons a r ih =>
    intro b h q hq
    simp only [mt_inc, Bool.and_eq_true] at h
    rcases List.mem_cons.mp hq with rfl | hq
    · simp
    · have h2 := mt_inc_ge _ _ h.2 q hq
      have h3 : (a.1 == q.1) = false := by
        rw [beq_eq_false_iff_ne]
        omega
      rw [List.find?_cons, h3]
      exact ih _ h.2 q hq
theorem mt_cd_of {y : Nat} {Y : mt_Y} {q : Nat × Instr × Nat} (hy : mt_q y = Y) (hi : mt_inc 0 Y.cd = true) (hq : q ∈ Y.cd) : mt_cd y q.1 = some q.2.1 := by
  unfold mt_cd
  rw [hy, mt_inc_find _ _ hi q hq]
  rfl
