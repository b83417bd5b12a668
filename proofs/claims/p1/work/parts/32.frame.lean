/-! the script's cell is not looked at: what a run does then it does with any script -/
def mi_ov (c : mi_C) (h : mi_H) : mi_H := (h.1, h.2.1, va_up h.2.2 mi_SC c)
def mi_hid (h : mi_H) : Prop := h.1 ≤ mi_SC ∧ ∃ z, h.2.2 mi_SC = .inr (z, [])
section
variable {c : mi_C} {h h' : mi_H} {y : Nat} {i : Instr} {pc pc' : Nat} {ls ls' : mi_L} {st st' : List Value}
theorem mi_ov_ne {q : Nat} (e : ¬ q = mi_SC) : (mi_ov c h).2.2 q = h.2.2 q := by simp [mi_ov, va_up, e]
theorem mi_up_comm {α : Type} (f : Nat → α) {a b : Nat} (e : ¬ a = b) (x z : α) : va_up (va_up f a x) b z = va_up (va_up f b z) a x := by
  funext j
  simp only [va_up]
  by_cases h1 : j = b
  · subst h1
    simp [Ne.symm e]
  · simp [h1]
theorem mi_ov_up {q : Nat} {n s : Nat} {x : mi_C} {f : Nat → mi_C} (e : ¬ q = mi_SC) : mi_ov c (n, s, va_up f q x) = (n, s, va_up (va_up f mi_SC c) q x) := by
  unfold mi_ov
  rw [mi_up_comm _ e]
theorem mi_hid_up {q : Nat} {n s : Nat} {x : mi_C} (hh : mi_hid h) (hn : n ≤ mi_SC) (e : ¬ q = mi_SC) : mi_hid (n, s, va_up h.2.2 q x) := by
  obtain ⟨-, z, h2⟩ := hh
  exact ⟨hn, z, by simp only [va_up]; rw [if_neg (Ne.symm e)]; exact h2⟩
theorem mi_hid_ne {q : Nat} (hh : mi_hid h) (hq : q < h.1) : ¬ q = mi_SC := by
  have := hh.1
  omega
theorem mi_sA_ov (g : mi_H) : mi_sA y i pc ls st g = (mi_sA y i pc ls st h).map (fun r => (r.1, r.2.1, r.2.2.1, g)) := by
  unfold mi_sA
  cases i <;> first | rfl | (dsimp only; split <;> first | rfl | (split <;> rfl))
theorem mi_sB_ov (g : mi_H) : mi_sB y i pc ls st g = (mi_sB y i pc ls st h).map (fun r => (r.1, r.2.1, r.2.2.1, g)) := by
  unfold mi_sB
  cases i <;> first | rfl | (dsimp only; split <;> first | rfl | (split <;> rfl))
theorem mi_sA_h (hs : mi_sA y i pc ls st h = some (pc', ls', st', h')) : h' = h := by
  have := mi_sA_ov (y := y) (i := i) (pc := pc) (ls := ls) (st := st) (h := h) h
  rw [hs] at this
  simpa using this
theorem mi_sB_h (hs : mi_sB y i pc ls st h = some (pc', ls', st', h')) : h' = h := by
  have := mi_sB_ov (y := y) (i := i) (pc := pc) (ls := ls) (st := st) (h := h) h
  rw [hs] at this
  simpa using this
theorem mi_sC_ov (g : mi_H) : mi_sC y i pc ls st g = (mi_sC y i pc ls st h).map (fun r => (r.1, r.2.1, r.2.2.1, g)) := by
  unfold mi_sC
  cases i with
  | ifCond cd off => dsimp only; cases cd <;> (split <;> first | rfl | (cases mi_j pc off <;> rfl))
  | if_icmp cd off => dsimp only; cases cd <;> (split <;> first | rfl | (cases mi_j pc off <;> rfl))
  | goto off => dsimp only; cases mi_j pc off <;> rfl
  | ifnull off => dsimp only; split <;> first | rfl | (cases mi_j pc off <;> rfl)
  | ifnonnull off => dsimp only; split <;> first | rfl | (cases mi_j pc off <;> rfl)
  | tableswitch df lo hi offs =>
    dsimp only
    split
    · split
      · cases mi_j pc df <;> rfl
      · rename_i a r _
        cases offs[(a.toInt - lo).toNat]? with
        | none => rfl
        | some off => simp only [Option.bind_some]; cases mi_j pc off <;> rfl
    · rfl
  | lookupswitch df ps =>
    dsimp only
    split
    · split
      · rename_i a r _
        cases mi_j pc (Op.lookupswitch.offset ps.toList df a.toInt) <;> rfl
      · rfl
    · rfl
  | _ => first | rfl | (dsimp only; split <;> first | rfl | (split <;> rfl))
theorem mi_sC_h (hs : mi_sC y i pc ls st h = some (pc', ls', st', h')) : h' = h := by
  have := mi_sC_ov (y := y) (i := i) (pc := pc) (ls := ls) (st := st) (h := h) h
  rw [hs] at this
  simpa using this
theorem mi_NC_le : mi_NC ≤ mi_SC := by decide +kernel
theorem mi_sD_ov (hh : mi_hid h) (hs : mi_sD y i pc ls st h = some (pc', ls', st', h')) : mi_sD y i pc ls st (mi_ov c h) = some (pc', ls', st', mi_ov c h') ∧ mi_hid h' := by
  obtain ⟨z, hz⟩ := hh.2
  cases i with
  | getfield idx =>
    simp only [mi_sD] at hs ⊢
    split at hs
    · rename_i q r
      split at hs
      · rename_i ci k cj fs hf hq
        split at hs
        · rename_i hg
          have e := mi_hid_ne hh hg.1
          simp only [hf, mi_ov_ne e, hq, show (mi_ov c h).1 = h.1 from rfl, if_pos hg]
          split at hs
          · cases hs
            rename_i v hv
            simp only [hv]
            exact ⟨by first | rfl | trivial, hh⟩
          · cases hs
        · cases hs
      · cases hs
    · cases hs
  | putfield idx =>
    simp only [mi_sD] at hs ⊢
    split at hs
    · rename_i v q r
      split at hs
      · rename_i ci k cj fs hf hq
        split at hs
        · rename_i hg
          have e := mi_hid_ne hh hg.1
          simp only [hf, mi_ov_ne e, hq, show (mi_ov c h).1 = h.1 from rfl, if_pos hg]
          cases hs
          refine ⟨?_, mi_hid_up hh hh.1 e⟩
          rw [mi_ov_up e]
          rfl
        · cases hs
      · cases hs
    · cases hs
  | iaload =>
    simp only [mi_sD] at hs ⊢
    split at hs
    · rename_i j q r
      by_cases e : q = mi_SC
      · subst e
        rw [hz] at hs
        cases hs
      · simp only [mi_ov_ne e, show (mi_ov c h).1 = h.1 from rfl]
        split at hs
        · split at hs
          · rename_i hg
            cases hs
            rename_i hq
            simp only [hq, if_pos hg]
            exact ⟨by first | rfl | trivial, hh⟩
          · cases hs
        · cases hs
    · cases hs
  | baload =>
    simp only [mi_sD] at hs ⊢
    split at hs
    · rename_i j q r
      by_cases e : q = mi_SC
      · subst e
        rw [hz] at hs
        cases hs
      · simp only [mi_ov_ne e, show (mi_ov c h).1 = h.1 from rfl]
        split at hs
        · split at hs
          · rename_i hg
            cases hs
            rename_i hq
            simp only [hq, if_pos hg]
            exact ⟨by first | rfl | trivial, hh⟩
          · cases hs
        · split at hs
          · rename_i hg
            cases hs
            rename_i hq
            simp only [hq, if_pos hg]
            exact ⟨by first | rfl | trivial, hh⟩
          · cases hs
        · cases hs
    · cases hs
  | laload =>
    simp only [mi_sD] at hs ⊢
    split at hs
    · rename_i j q r
      by_cases e : q = mi_SC
      · subst e
        rw [hz] at hs
        cases hs
      · simp only [mi_ov_ne e, show (mi_ov c h).1 = h.1 from rfl]
        split at hs
        · split at hs
          · rename_i hg
            cases hs
            rename_i hq
            simp only [hq, if_pos hg]
            exact ⟨by first | rfl | trivial, hh⟩
          · cases hs
        · cases hs
    · cases hs
  | iastore =>
    simp only [mi_sD] at hs ⊢
    split at hs
    · rename_i x j q r
      by_cases e : q = mi_SC
      · subst e
        rw [hz] at hs
        cases hs
      · simp only [mi_ov_ne e, show (mi_ov c h).1 = h.1 from rfl]
        split at hs
        · split at hs
          · rename_i hg
            cases hs
            rename_i hq
            simp only [hq, if_pos hg]
            refine ⟨?_, mi_hid_up hh hh.1 e⟩
            rw [mi_ov_up e]
            first | rfl | trivial
          · cases hs
        · cases hs
    · cases hs
  | bastore =>
    simp only [mi_sD] at hs ⊢
    split at hs
    · rename_i x j q r
      by_cases e : q = mi_SC
      · subst e
        rw [hz] at hs
        cases hs
      · simp only [mi_ov_ne e, show (mi_ov c h).1 = h.1 from rfl]
        split at hs
        · split at hs
          · rename_i hg
            cases hs
            rename_i hq
            simp only [hq, if_pos hg]
            refine ⟨?_, mi_hid_up hh hh.1 e⟩
            rw [mi_ov_up e]
            first | rfl | trivial
          · cases hs
        · split at hs
          · rename_i hg
            cases hs
            rename_i hq
            simp only [hq, if_pos hg]
            refine ⟨?_, mi_hid_up hh hh.1 e⟩
            rw [mi_ov_up e]
            first | rfl | trivial
          · cases hs
        · cases hs
    · cases hs
  | lastore =>
    simp only [mi_sD] at hs ⊢
    split at hs
    · rename_i x j q r
      by_cases e : q = mi_SC
      · subst e
        rw [hz] at hs
        cases hs
      · simp only [mi_ov_ne e, show (mi_ov c h).1 = h.1 from rfl]
        split at hs
        · split at hs
          · rename_i hg
            cases hs
            rename_i hq
            simp only [hq, if_pos hg]
            refine ⟨?_, mi_hid_up hh hh.1 e⟩
            rw [mi_ov_up e]
            first | rfl | trivial
          · cases hs
        · cases hs
    · cases hs
  | aaload =>
    simp only [mi_sD] at hs ⊢
    split at hs
    · rename_i j q r
      by_cases e : q = mi_SC
      · subst e
        rw [hz] at hs
        cases hs
      · simp only [mi_ov_ne e, show (mi_ov c h).1 = h.1 from rfl]
        split at hs
        · split at hs
          · rename_i hg
            cases hs
            rename_i hq
            simp only [hq, if_pos hg]
            exact ⟨by first | rfl | trivial, hh⟩
          · cases hs
        · cases hs
    · cases hs
  | aastore =>
    simp only [mi_sD] at hs ⊢
    split at hs
    · rename_i v j q r
      split at hs
      · rename_i hq hv
        split at hs
        · rename_i hg
          have e := mi_hid_ne hh hg.1.1
          have e2 := mi_hid_ne hh hg.1.2.1
          simp only [mi_ov_ne e, mi_ov_ne e2, hq, hv, show (mi_ov c h).1 = h.1 from rfl, if_pos hg]
          cases hs
          refine ⟨?_, mi_hid_up hh hh.1 e⟩
          rw [mi_ov_up e]
          first | rfl | trivial
        · cases hs
      · cases hs
    · cases hs
  | arraylength =>
    simp only [mi_sD] at hs ⊢
    split at hs
    · rename_i q r
      by_cases e : q = mi_SC
      · subst e
        rw [hz] at hs
        cases hs
      · simp only [mi_ov_ne e, show (mi_ov c h).1 = h.1 from rfl]
        split at hs
        · split at hs
          · rename_i hg
            cases hs
            rename_i hq
            simp only [hq, if_pos hg]
            exact ⟨by first | rfl | trivial, hh⟩
          · first | (cases hs; done) | (rw [if_neg e] at hs; cases hs)
        · cases hs
    · cases hs
  | new idx =>
    simp only [mi_sD] at hs ⊢
    split at hs
    · rename_i ci hc
      split at hs
      · rename_i hg
        cases hs
        have e : ¬ h.1 = mi_SC := by have := hg.2.1; have := mi_NC_le; omega
        simp only [hc, show (mi_ov c h).1 = h.1 from rfl, show (mi_ov c h).2.1 = h.2.1 from rfl, if_pos hg]
        refine ⟨?_, mi_hid_up hh (by have := hg.2.1; have := mi_NC_le; omega) e⟩
        rw [mi_ov_up e]
        first | rfl | trivial
      · cases hs
    · cases hs
  | newarray aty =>
    simp only [mi_sD] at hs ⊢
    split at hs
    · rename_i k z n r hc
      split at hs
      · rename_i hg
        cases hs
        have e : ¬ h.1 = mi_SC := by have := hg.2.2.1; have := mi_NC_le; omega
        simp only [hc, show (mi_ov c h).1 = h.1 from rfl, show (mi_ov c h).2.1 = h.2.1 from rfl, if_pos hg]
        refine ⟨?_, mi_hid_up hh (by have := hg.2.2.1; have := mi_NC_le; omega) e⟩
        rw [mi_ov_up e]
        first | rfl | trivial
      · cases hs
    · cases hs
  | anewarray idx =>
    simp only [mi_sD] at hs ⊢
    split at hs
    · rename_i ci n r hc
      split at hs
      · rename_i k hk
        split at hs
        · rename_i hg
          cases hs
          have e : ¬ h.1 = mi_SC := by have := hg.2.2.1; have := mi_NC_le; omega
          simp only [hc, hk, show (mi_ov c h).1 = h.1 from rfl, show (mi_ov c h).2.1 = h.2.1 from rfl, if_pos hg]
          refine ⟨?_, mi_hid_up hh (by have := hg.2.2.1; have := mi_NC_le; omega) e⟩
          rw [mi_ov_up e]
          first | rfl | trivial
        · cases hs
      · cases hs
    · cases hs
  | _ => cases hs
theorem mi_sE_ov (hh : mi_hid h) (hs : mi_sE y i pc ls st h = some (pc', ls', st', h')) : mi_sE y i pc ls st (mi_ov c h) = some (pc', ls', st', mi_ov c h') ∧ mi_hid h' := by
  obtain ⟨z, hz⟩ := hh.2
  cases i with
  | aastore =>
    simp only [mi_sE] at hs ⊢
    split at hs
    · rename_i x j q r
      by_cases e : q = mi_SC
      · subst e
        rw [hz] at hs
        cases hs
      · simp only [mi_ov_ne e, show (mi_ov c h).1 = h.1 from rfl]
        split at hs
        · split at hs
          · rename_i hg
            cases hs
            rename_i hq
            simp only [hq, if_pos hg]
            refine ⟨?_, mi_hid_up hh hh.1 e⟩
            rw [mi_ov_up e]
            first | rfl | trivial
          · cases hs
        · cases hs
    · cases hs
  | invokestatic idx =>
    simp only [mi_sE] at hs ⊢
    split at hs
    · rename_i n dp a sp a0 r
      split at hs
      · rename_i hq hv
        split at hs
        · rename_i hg
          have e := mi_hid_ne hh hg.1.2.1
          have e2 := mi_hid_ne hh hg.1.2.2.1
          simp only [mi_ov_ne e, mi_ov_ne e2, hq, hv, show (mi_ov c h).1 = h.1 from rfl, if_pos hg]
          cases hs
          refine ⟨?_, mi_hid_up hh hh.1 e2⟩
          rw [mi_ov_up e2]
          first | rfl | trivial
        · cases hs
      · cases hs
    · cases hs
  | ldc2_w idx =>
    simp only [mi_sE] at hs ⊢
    split at hs
    · rename_i hg; cases hs; simp only [hg]; exact ⟨by first | rfl | trivial, hh⟩
    · cases hs
  | ldc idx =>
    simp only [mi_sE] at hs ⊢
    split at hs
    · rename_i hg; cases hs; simp only [hg]; exact ⟨by first | rfl | trivial, hh⟩
    · cases hs
  | ldc_w idx =>
    simp only [mi_sE] at hs ⊢
    split at hs
    · rename_i hg; cases hs; simp only [hg]; exact ⟨by first | rfl | trivial, hh⟩
    · cases hs
  | getstatic idx =>
    simp only [mi_sE] at hs ⊢
    split at hs
    · rename_i hg; cases hs; simp only [if_pos hg]; exact ⟨by first | rfl | trivial, hh⟩
    · rename_i hn
      split at hs
      · rename_i hg; cases hs; simp only [if_neg hn, if_pos hg]; exact ⟨by first | rfl | trivial, hh⟩
      · cases hs
  | getfield idx =>
    simp only [mi_sE] at hs ⊢
    split at hs
    · split at hs
      · rename_i hg
        rw [if_pos hg]
        split at hs
        · rename_i h1; cases hs; rw [if_pos h1]; exact ⟨by first | rfl | trivial, hh⟩
        · rename_i hn
          rw [if_neg hn]
          split at hs
          · rename_i h1; cases hs; rw [if_pos h1]; exact ⟨by first | rfl | trivial, hh⟩
          · cases hs
      · cases hs
    · cases hs
  | baload =>
    simp only [mi_sE] at hs ⊢
    split at hs
    · split at hs
      · rename_i hg; cases hs; rw [if_pos hg]; exact ⟨by first | rfl | trivial, hh⟩
      · cases hs
    · cases hs
  | arraylength =>
    simp only [mi_sE] at hs ⊢
    split at hs
    · split at hs
      · rename_i hg; cases hs; rw [if_pos hg]; exact ⟨by first | rfl | trivial, hh⟩
      · cases hs
    · cases hs
  | invokespecial idx =>
    simp only [mi_sE] at hs ⊢
    split at hs
    · split at hs
      · rename_i hg; cases hs; rw [if_pos hg]; exact ⟨by first | rfl | trivial, hh⟩
      · cases hs
    · cases hs
  | _ => cases hs
theorem mi_map_none {g : mi_H} {o o' : Option (Nat × mi_L × List Value × mi_H)} (h1 : o' = o.map (fun r => (r.1, r.2.1, r.2.2.1, g))) (h2 : o = none) : o' = none := by
  subst h2
  exact h1
theorem mi_s_ov (hh : mi_hid h) (hs : mi_s y i pc ls st h = some (pc', ls', st', h')) : mi_s y i pc ls st (mi_ov c h) = some (pc', ls', st', mi_ov c h') ∧ mi_hid h' := by
  unfold mi_s at hs ⊢
  cases hA : mi_sA y i pc ls st h with
  | some r =>
    rw [hA] at hs
    cases hs
    have e := mi_sA_h hA
    have e2 := mi_sA_ov (y := y) (i := i) (pc := pc) (ls := ls) (st := st) (h := h) (mi_ov c h)
    rw [hA] at e2
    rw [e2]
    subst e
    exact ⟨rfl, hh⟩
  | none =>
    rw [hA] at hs
    rw [mi_map_none (mi_sA_ov (mi_ov c h)) hA]
    dsimp only at hs ⊢
    cases hD : mi_sD y i pc ls st h with
    | some r =>
      rw [hD] at hs
      cases hs
      have e2 := mi_sD_ov (c := c) hh hD
      rw [e2.1]
      exact ⟨rfl, e2.2⟩
    | none =>
      rw [hD] at hs
      dsimp only at hs
      cases hB : mi_sB y i pc ls st h with
      | some r =>
        rw [hB] at hs
        cases hs
        have hD2 : mi_sD y i pc ls st (mi_ov c h) = none := by
          cases i <;> first | rfl | (cases hB)
        have e := mi_sB_h hB
        have e2 := mi_sB_ov (y := y) (i := i) (pc := pc) (ls := ls) (st := st) (h := h) (mi_ov c h)
        rw [hB] at e2
        rw [hD2, e2]
        subst e
        exact ⟨rfl, hh⟩
      | none =>
        rw [hB] at hs
        rw [mi_map_none (mi_sB_ov (mi_ov c h)) hB]
        dsimp only at hs ⊢
        cases hC : mi_sC y i pc ls st h with
        | some r =>
          rw [hC] at hs
          cases hs
          have hD2 : mi_sD y i pc ls st (mi_ov c h) = none := by
            cases i <;> first | rfl | (cases hC)
          have e := mi_sC_h hC
          have e2 := mi_sC_ov (y := y) (i := i) (pc := pc) (ls := ls) (st := st) (h := h) (mi_ov c h)
          rw [hC] at e2
          rw [hD2, e2]
          subst e
          exact ⟨rfl, hh⟩
        | none =>
          rw [hC] at hs
          rw [mi_map_none (mi_sC_ov (mi_ov c h)) hC]
          dsimp only at hs ⊢
          have e2 := mi_sE_ov (c := c) hh hs
          have hD2 : mi_sD y i pc ls st (mi_ov c h) = none := by
            cases i with
            | getfield idx =>
              simp only [mi_sE] at hs
              split at hs
              · split at hs
                · rename_i q r hg
                  have e : ¬ q = mi_SC := Nat.ne_of_gt hg.2.1
                  have e3 : mi_sD y (.getfield idx) pc ls (.ref q :: r) (mi_ov c h) = (mi_sD y (.getfield idx) pc ls (.ref q :: r) h).map (fun z => (z.1, z.2.1, z.2.2.1, mi_ov c h)) := by
                    simp only [mi_sD, mi_ov_ne e, show (mi_ov c h).1 = h.1 from rfl]
                    split <;> first | rfl | (split <;> first | rfl | (split <;> rfl))
                  rw [e3, hD]
                  rfl
                · cases hs
              · cases hs
            | baload =>
              simp only [mi_sE] at hs
              split at hs
              · split at hs
                · rename_i j q r hg
                  have e : ¬ q = mi_SC := Nat.ne_of_gt hg.1.1
                  have e3 : mi_sD y .baload pc ls (.int j :: .ref q :: r) (mi_ov c h) = (mi_sD y .baload pc ls (.int j :: .ref q :: r) h).map (fun z => (z.1, z.2.1, z.2.2.1, mi_ov c h)) := by
                    simp only [mi_sD, mi_ov_ne e, show (mi_ov c h).1 = h.1 from rfl]
                    split <;> first | rfl | (split <;> rfl)
                  rw [e3, hD]
                  rfl
                · cases hs
              · cases hs
            | arraylength =>
              simp only [mi_sE] at hs
              split at hs
              · split at hs
                · rename_i q r hg
                  have e : ¬ q = mi_SC := Nat.ne_of_gt hg.1
                  have e3 : mi_sD y .arraylength pc ls (.ref q :: r) (mi_ov c h) = (mi_sD y .arraylength pc ls (.ref q :: r) h).map (fun z => (z.1, z.2.1, z.2.2.1, mi_ov c h)) := by
                    simp only [mi_sD, mi_ov_ne e, show (mi_ov c h).1 = h.1 from rfl]
                    split <;> first | rfl | (split <;> first | rfl | (split <;> rfl))
                  rw [e3, hD]
                  rfl
                · cases hs
              · cases hs
            | aastore =>
              simp only [mi_sE] at hs
              split at hs
              · rename_i v j q r
                split at hs
                · rename_i hq
                  split at hs
                  · rename_i hg
                    have e := mi_hid_ne hh hg.1.1
                    have e' : ¬ v = mi_SC := Nat.ne_of_gt hg.1.2.1
                    have e3 : mi_sD y .aastore pc ls (.ref v :: .int j :: .ref q :: r) (mi_ov c h) = (mi_sD y .aastore pc ls (.ref v :: .int j :: .ref q :: r) h).map (fun z => (z.1, z.2.1, z.2.2.1, mi_ov c z.2.2.2)) := by
                      simp only [mi_sD, mi_ov_ne e, mi_ov_ne e', show (mi_ov c h).1 = h.1 from rfl]
                      split
                      · split
                        · simp only [Option.map_some]
                          rw [mi_ov_up e]
                          rfl
                        · rfl
                      · rfl
                    rw [e3, hD]
                    rfl
                  · cases hs
                · cases hs
              · cases hs
            | _ => first | rfl | (cases hs)
          rw [hD2]
          exact e2
theorem mi_sn_e {rt : Option FieldType} {v : Option Value} (he : mi_e rt i st = some v) (g : mi_H) : mi_s y i pc ls st g = none := by
  cases i <;> first | rfl | (cases he)
theorem mi_sn_t {h1 : mi_H} (ht : mi_t y pc i st h = some h1) (hs : mi_s y i pc ls st h = none) : mi_s y i pc ls st (mi_ov c h) = none := by
  cases i with
  | new idx =>
    unfold mi_s at hs ⊢
    simp only [mi_sA, mi_sB, mi_sC, mi_sE, mi_sD, show (mi_ov c h).1 = h.1 from rfl, show (mi_ov c h).2.1 = h.2.1 from rfl] at hs ⊢
    cases hc : mt_c (mt_oc y) idx with
    | none => rfl
    | some ci =>
      rw [hc] at hs
      dsimp only at hs ⊢
      by_cases hg : mt_nw ci = true ∧ h.1 + 1 ≤ mi_NC ∧ h.2.1 + mt_nf ci ≤ mi_NS
      · rw [if_pos hg] at hs
        cases hs
      · rw [if_neg hg]
  | _ => cases ht
theorem mi_sn_i {r : Nat × List Value × List Value} (hh : mi_hid h) (hi : mi_i y i st h = some r) (hs : mi_s y i pc ls st h = none) : mi_s y i pc ls st (mi_ov c h) = none := by
  cases i with
  | invokevirtual idx => rfl
  | invokespecial idx =>
    unfold mi_s at hs ⊢
    simp only [mi_sA, mi_sB, mi_sC, mi_sE, mi_sD] at hs ⊢
    split at hs
    · split at hs
      · cases hs
      · rename_i hg
        rw [if_neg hg]
    · rfl
  | invokestatic idx =>
    unfold mi_s at hs ⊢
    simp only [mi_sA, mi_sB, mi_sC, mi_sE, mi_sD, show (mi_ov c h).1 = h.1 from rfl] at hs ⊢
    split at hs
    · rename_i n dp a sp a0 r'
      by_cases e : a0 = mi_SC
      · subst e
        split
        · split
          · rename_i hg
            exact absurd rfl (mi_hid_ne hh hg.1.2.1)
          · rfl
        · rfl
      · by_cases e2 : a = mi_SC
        · subst e2
          split
          · split
            · rename_i hg
              exact absurd rfl (mi_hid_ne hh hg.1.2.2.1)
            · rfl
          · rfl
        · simp only [mi_ov_ne e, mi_ov_ne e2]
          split at hs
          · rename_i hq hv
            split at hs
            · cases hs
            · rename_i hg
              simp only [hq, hv, if_neg hg]
          · rfl
    · rfl
  | _ => cases hi
theorem mi_t_ov {h1 : mi_H} (hh : mi_hid h) (ht : mi_t y pc i st h = some h1) : mi_t y pc i st (mi_ov c h) = some (mi_ov c h1) ∧ mi_hid h1 := by
  cases i with
  | new idx =>
    simp only [mi_t, show (mi_ov c h).1 = h.1 from rfl, show (mi_ov c h).2.1 = h.2.1 from rfl] at ht ⊢
    split at ht
    · rename_i ce hc
      split at ht
      · rename_i k h3 h4
        split at ht
        · rename_i hg
          cases ht
          have e : ¬ h.1 = mi_SC := by have := hg.2.2.2.1; have := mi_NC_le; omega
          simp only [hc, h3, h4, if_pos hg]
          refine ⟨?_, mi_hid_up hh (by have := hg.2.2.2.1; have := mi_NC_le; omega) e⟩
          rw [mi_ov_up e]
          first | rfl | trivial
        · cases ht
      · rename_i k h3 h4
        split at ht
        · rename_i hg
          cases ht
          have e : ¬ h.1 = mi_SC := by have := hg.2.2.2.1; have := mi_NC_le; omega
          simp only [hc, h3, h4, if_pos hg]
          refine ⟨?_, mi_hid_up hh (by have := hg.2.2.2.1; have := mi_NC_le; omega) e⟩
          rw [mi_ov_up e]
          first | rfl | trivial
        · cases ht
      · cases ht
    · cases ht
  | _ => cases ht
theorem mi_t_none {r : Nat × List Value × List Value} (hi : mi_i y i st h = some r) (g : mi_H) : mi_t y pc i st g = none := by
  cases i <;> first | rfl | (cases hi)
theorem mi_i_ov {r : Nat × List Value × List Value} (hh : mi_hid h) (hi : mi_i y i st h = some r) : mi_i y i st (mi_ov c h) = some r := by
  cases i with
  | invokevirtual idx =>
    simp only [mi_i, show (mi_ov c h).1 = h.1 from rfl] at hi ⊢
    split at hi
    · rename_i y2 hm
      split at hi
      · rename_i q rest hd
        split at hi
        · rename_i ci fs hq
          split at hi
          · rename_i hg
            have e : ¬ q = mi_SC := by
              rcases hg.1.1 with h1 | h1
              · exact mi_hid_ne hh h1
              · exact Nat.ne_of_gt h1.1
            simp only [hm, hd, mi_ov_ne e, hq, if_pos hg]
            exact hi
          · cases hi
        · cases hi
      · cases hi
    · cases hi
  | invokespecial idx => exact hi
  | invokestatic idx => exact hi
  | _ => cases hi
end
theorem mi_x_ov {c : mi_C} : ∀ (n d y pc : Nat) (ls : mi_L) (st : List Value) (h : mi_H) (o : Option Value ⊕ Nat) (h' : mi_H), mi_hid h → mi_x n d y pc ls st h = some (o, h') → mi_x n d y pc ls st (mi_ov c h) = some (o, mi_ov c h') ∧ mi_hid h' := by
  intro n
  induction n with
  | zero => intro d y pc ls st h o h' hh hr; cases hr
  | succ n ih =>
    intro d y pc ls st h o h' hh hr
    simp only [mi_x] at hr ⊢
    cases hcd : mt_cd y pc with
    | none => rw [hcd] at hr; cases hr
    | some i =>
      rw [hcd] at hr
      dsimp only at hr ⊢
      cases hs : mi_s y i pc ls st h with
      | some q =>
        obtain ⟨pc', ls', st', h1⟩ := q
        rw [hs] at hr
        obtain ⟨e1, e2⟩ := mi_s_ov (c := c) hh hs
        rw [e1]
        exact ih _ _ _ _ _ _ _ _ e2 hr
      | none =>
        rw [hs] at hr
        dsimp only at hr
        cases he : mi_e (mt_rt y) i st with
        | some v =>
          rw [he] at hr
          cases hr
          rw [mi_sn_e he]
          exact ⟨rfl, hh⟩
        | none =>
          rw [he] at hr
          dsimp only at hr
          cases ht : mi_t y pc i st h with
          | some h1 =>
            rw [ht] at hr
            cases hr
            obtain ⟨e1, e2⟩ := mi_t_ov (c := c) hh ht
            rw [mi_sn_t ht hs]
            dsimp only
            rw [e1]
            exact ⟨rfl, e2⟩
          | none =>
            rw [ht] at hr
            dsimp only at hr
            cases hi : mi_i y i st h with
            | none => rw [hi] at hr; cases hr
            | some q =>
              obtain ⟨y2, as, rest⟩ := q
              rw [hi] at hr
              rw [mi_sn_i hh hi hs]
              dsimp only
              rw [mi_t_none hi, mi_i_ov hh hi]
              dsimp only at hr ⊢
              cases d with
              | zero => cases hr
              | succ d =>
                dsimp only at hr ⊢
                cases hc : mi_x n d y2 0 (mi_en (mt_ml y2) as) [] h with
                | none => rw [hc] at hr; cases hr
                | some q =>
                  obtain ⟨o1, h1⟩ := q
                  rw [hc] at hr
                  obtain ⟨e1, e2⟩ := ih _ _ _ _ _ _ _ _ hh hc
                  rw [e1]
                  cases o1 with
                  | inl v =>
                    dsimp only at hr ⊢
                    exact ih _ _ _ _ _ _ _ _ e2 hr
                  | inr x =>
                    dsimp only at hr ⊢
                    split at hr
                    · rename_i ce fs hcx
                      split at hr
                      · rename_i hx1
                        rw [mi_ov_ne (mi_hid_ne e2 hx1), hcx]
                        dsimp only
                        rw [if_pos (show x < (mi_ov c h1).1 from hx1)]
                        split at hr
                        · rename_i hp hhf
                          exact ih _ _ _ _ _ _ _ _ e2 hr
                        · cases hr
                          exact ⟨rfl, e2⟩
                        · cases hr
                      · cases hr
                    · cases hr
