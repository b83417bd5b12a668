/-! an array holds nothing behind its length: truths and places -/
def mi_za (c : mi_C) : Prop := (∀ n g, c = .inl (2, n, .inl g) → ∀ j, n ≤ j → g j = 0) ∧ ∀ k n g, c = .inl (k, n, .inr (.inr (.inr (.inr g)))) → ∀ j, n ≤ j → g j = none
def mi_zh (h : mi_H) : Prop := ∀ q, mi_za (h.2.2 q)
section
variable {h h' : mi_H} {y : Nat} {i : Instr} {pc pc' : Nat} {ls ls' : mi_L} {st st' : List Value}
theorem mi_zh.up {n s q : Nat} {x : mi_C} (hz : mi_zh h) (hx : mi_za x) : mi_zh (n, s, va_up h.2.2 q x) := by
  intro q'
  show mi_za (va_up h.2.2 q x q')
  by_cases e : q' = q
  · rw [e, va_eq]
    exact hx
  · rw [va_ne e]
    exact hz q'
theorem mi_za_o {c : Nat} {fs : List Value} : mi_za (.inr (c, fs)) := ⟨fun _ _ e => (by cases e), fun _ _ _ e => (by cases e)⟩
theorem mi_za_i {n : Nat} {g : Nat → Int32} {k : Nat} (hk : ¬ k = 2) : mi_za (.inl (k, n, .inl g)) := ⟨fun _ _ e => (by cases e; exact absurd rfl hk), fun _ _ _ e => (by cases e)⟩
theorem mi_za_l {n : Nat} {g : Nat → Int64} {k : Nat} : mi_za (.inl (k, n, .inr (.inl g))) := ⟨fun _ _ e => (by cases e), fun _ _ _ e => (by cases e)⟩
theorem mi_za_b {n j : Nat} {g : Nat → Int32} {v : Int32} (hq : mi_za (.inl (2, n, .inl g))) (hj : j < n) : mi_za (.inl (2, n, .inl (upd g j v))) := by
  refine ⟨fun n' g' e i hi => ?_, fun _ _ _ e => (by cases e)⟩
  cases e
  rw [upd_ne (by omega)]
  exact hq.1 n g rfl i hi
theorem mi_za_r {k n j : Nat} {g : Nat → Option Nat} {v : Option Nat} (hq : mi_za (.inl (k, n, .inr (.inr (.inr (.inr g)))))) (hj : j < n) : mi_za (.inl (k, n, .inr (.inr (.inr (.inr (va_up g j v)))))) := by
  refine ⟨fun _ _ e => (by cases e), fun k' n' g' e i hi => ?_⟩
  cases e
  rw [va_ne (by omega)]
  exact hq.2 k n g rfl i hi
theorem mi_za_at {t : ArrayType} {k n : Nat} {z : (Nat → Int32) ⊕ (Nat → Int64) ⊕ (Nat → UInt32) ⊕ (Nat → UInt64) ⊕ (Nat → Option Nat)} (hk : mi_at t = some (k, z)) : mi_za (.inl (k, n, z)) := by
  cases t <;> first | (cases hk; done) | (cases hk; exact ⟨fun _ _ e => (by cases e; exact fun _ _ => rfl), fun _ _ _ e => (by cases e)⟩) | (cases hk; exact ⟨fun _ _ e => (by cases e), fun _ _ _ e => (by cases e)⟩)
theorem mi_za_n {k n : Nat} : mi_za (.inl (k, n, .inr (.inr (.inr (.inr (fun _ => none)))))) := ⟨fun _ _ e => (by cases e), fun _ _ _ e => (by cases e; exact fun _ _ => rfl)⟩
theorem mi_zj {j : Int32} {n : Nat} (h : ¬ (j < 0 ∨ n ≤ j.toNatClampNeg)) : j.toNatClampNeg < n := by
  have := fun g => h (Or.inr g)
  omega
theorem mi_sD_z (hz : mi_zh h) (hs : mi_sD y i pc ls st h = some (pc', ls', st', h')) : mi_zh h' := by
  cases i with
  | putfield idx =>
    simp only [mi_sD] at hs
    split at hs
    · split at hs
      · split at hs
        · cases hs
          exact hz.up mi_za_o
        · cases hs
      · cases hs
    · cases hs
  | iastore =>
    simp only [mi_sD] at hs
    split at hs
    · split at hs
      · split at hs
        · cases hs
          exact hz.up (mi_za_i (by decide))
        · cases hs
      · cases hs
    · cases hs
  | bastore =>
    simp only [mi_sD] at hs
    split at hs
    · rename_i x j q r
      split at hs
      · split at hs
        · cases hs
          exact hz.up (mi_za_i (by decide))
        · cases hs
      · rename_i n f hq
        split at hs
        · rename_i hg
          cases hs
          exact hz.up (mi_za_b (by rw [← hq]; exact hz q) (mi_zj hg.2))
        · cases hs
      · cases hs
    · cases hs
  | lastore =>
    simp only [mi_sD] at hs
    split at hs
    · split at hs
      · split at hs
        · cases hs
          exact hz.up mi_za_l
        · cases hs
      · cases hs
    · cases hs
  | aastore =>
    simp only [mi_sD] at hs
    split at hs
    · rename_i v j q r
      split at hs
      · rename_i k n f ci fs hq hv
        split at hs
        · rename_i hg
          cases hs
          exact hz.up (mi_za_r (by rw [← hq]; exact hz q) (mi_zj hg.2))
        · cases hs
      · cases hs
    · cases hs
  | new idx =>
    simp only [mi_sD] at hs
    split at hs
    · split at hs
      · cases hs
        exact hz.up mi_za_o
      · cases hs
    · cases hs
  | newarray aty =>
    simp only [mi_sD] at hs
    split at hs
    · rename_i k z n r hk
      split at hs
      · cases hs
        exact hz.up (mi_za_at hk)
      · cases hs
    · cases hs
  | anewarray idx =>
    simp only [mi_sD] at hs
    split at hs
    · split at hs
      · split at hs
        · cases hs
          exact hz.up mi_za_n
        · cases hs
      · cases hs
    · cases hs
  | getfield idx =>
    simp only [mi_sD] at hs
    repeat' (split at hs)
    all_goals first | (cases hs; done) | (cases hs; exact hz)
  | iaload =>
    simp only [mi_sD] at hs
    repeat' (split at hs)
    all_goals first | (cases hs; done) | (cases hs; exact hz)
  | baload =>
    simp only [mi_sD] at hs
    repeat' (split at hs)
    all_goals first | (cases hs; done) | (cases hs; exact hz)
  | laload =>
    simp only [mi_sD] at hs
    repeat' (split at hs)
    all_goals first | (cases hs; done) | (cases hs; exact hz)
  | aaload =>
    simp only [mi_sD] at hs
    repeat' (split at hs)
    all_goals first | (cases hs; done) | (cases hs; exact hz)
  | arraylength =>
    simp only [mi_sD] at hs
    repeat' (split at hs)
    all_goals first | (cases hs; done) | (cases hs; exact hz)
  | _ => cases hs
theorem mi_sE_z (hz : mi_zh h) (hs : mi_sE y i pc ls st h = some (pc', ls', st', h')) : mi_zh h' := by
  cases i with
  | aastore =>
    simp only [mi_sE] at hs
    split at hs
    · rename_i v j q r
      split at hs
      · rename_i n f hq
        split at hs
        · rename_i hg
          cases hs
          exact hz.up (mi_za_r (by rw [← hq]; exact hz q) (mi_zj hg.2))
        · cases hs
      · cases hs
    · cases hs
  | invokestatic idx =>
    simp only [mi_sE] at hs
    split at hs
    · split at hs
      · split at hs
        · cases hs
          exact hz.up mi_za_l
        · cases hs
      · cases hs
    · cases hs
  | ldc2_w idx =>
    simp only [mi_sE] at hs
    repeat' (split at hs)
    all_goals first | (cases hs; done) | (cases hs; exact hz)
  | ldc idx =>
    simp only [mi_sE] at hs
    repeat' (split at hs)
    all_goals first | (cases hs; done) | (cases hs; exact hz)
  | ldc_w idx =>
    simp only [mi_sE] at hs
    repeat' (split at hs)
    all_goals first | (cases hs; done) | (cases hs; exact hz)
  | getstatic idx =>
    simp only [mi_sE] at hs
    repeat' (split at hs)
    all_goals first | (cases hs; done) | (cases hs; exact hz)
  | getfield idx =>
    simp only [mi_sE] at hs
    repeat' (split at hs)
    all_goals first | (cases hs; done) | (cases hs; exact hz)
  | baload =>
    simp only [mi_sE] at hs
    repeat' (split at hs)
    all_goals first | (cases hs; done) | (cases hs; exact hz)
  | arraylength =>
    simp only [mi_sE] at hs
    repeat' (split at hs)
    all_goals first | (cases hs; done) | (cases hs; exact hz)
  | invokespecial idx =>
    simp only [mi_sE] at hs
    repeat' (split at hs)
    all_goals first | (cases hs; done) | (cases hs; exact hz)
  | _ => cases hs
theorem mi_s_z (hz : mi_zh h) (hs : mi_s y i pc ls st h = some (pc', ls', st', h')) : mi_zh h' := by
  unfold mi_s at hs
  split at hs
  · rename_i r h1
    cases hs
    rw [mi_sA_h h1]
    exact hz
  · split at hs
    · rename_i r h1
      cases hs
      exact mi_sD_z hz h1
    · split at hs
      · rename_i r h1
        cases hs
        rw [mi_sB_h h1]
        exact hz
      · split at hs
        · rename_i r h1
          cases hs
          rw [mi_sC_h h1]
          exact hz
        · exact mi_sE_z hz hs
theorem mi_t_z (hz : mi_zh h) (hs : mi_t y pc i st h = some h') : mi_zh h' := by
  unfold mi_t at hs
  repeat' (split at hs)
  all_goals first | (cases hs; done) | (cases hs; exact hz.up mi_za_o)
theorem mi_x_z : ∀ (n d y pc : Nat) (ls : mi_L) (st : List Value) (h : mi_H) (o : Option Value ⊕ Nat) (h' : mi_H), mi_zh h → mi_x n d y pc ls st h = some (o, h') → mi_zh h' := by
  intro n
  induction n with
  | zero => intro d y pc ls st h o h' _ hr; cases hr
  | succ n ih =>
    intro d y pc ls st h o h' hz hr
    unfold mi_x at hr
    split at hr
    · cases hr
    · split at hr
      · rename_i hs
        exact ih _ _ _ _ _ _ _ _ (mi_s_z hz hs) hr
      · split at hr
        · cases hr
          exact hz
        · split at hr
          · rename_i ht
            cases hr
            exact mi_t_z hz ht
          · split at hr
            · cases hr
            · split at hr
              · cases hr
              · split at hr
                · cases hr
                · rename_i hc
                  exact ih _ _ _ _ _ _ _ _ (ih _ _ _ _ _ _ _ _ hz hc) hr
                · rename_i hc
                  have h1 := ih _ _ _ _ _ _ _ _ hz hc
                  split at hr
                  · split at hr
                    · split at hr
                      · exact ih _ _ _ _ _ _ _ _ h1 hr
                      · cases hr
                        exact h1
                      · cases hr
                    · cases hr
                  · cases hr
end
