/-! the law: one call -/
section
variable {d n sl L : Nat} {f : Nat → mi_C} {xs : Nat → Int32} {o6 o7 o8 : Option Value} {Q : (Option Value ⊕ Nat) → mi_H → Prop}
theorem mp_head {l5 : Int32} (hsc : f mi_SC = .inl (0, L, .inl xs)) (h12 : Int32.ofNat L - 6 < l5 → mi_W d 204 1171 [some (.ref mi_SC), some (.ref 0), some (.ref 505), some (.ref 574), some (.int l5), o6, o7, o8] [] (n, sl, f) Q) (h13 : ¬ (Int32.ofNat L - 6 < l5) → mi_W d 204 33 [some (.ref mi_SC), some (.ref 0), some (.ref 505), some (.ref 574), some (.int l5), o6, o7, o8] [] (n, sl, f) Q) : mi_W d 204 23 [some (.ref mi_SC), some (.ref 0), some (.ref 505), some (.ref 574), some (.int l5), o6, o7, o8] [] (n, sl, f) Q := by
  refine w_iload cd_204_23 rfl ?_
  refine w_aload_n cd_204_25 rfl ?_
  refine w_arraylengthS cd_204_26 hsc ?_
  refine w_bipush (v := 6) cd_204_27 (by decide) ?_
  refine w_isub cd_204_29 ?_
  exact w_if_icmpgt cd_204_30 (by decide) h12 h13
theorem mp_tail (hsc : f mi_SC = .inl (0, 6, .inl xs)) (k : ∀ h, Q (.inl (some (.int 1))) h) : mi_W d 204 1165 [some (.ref mi_SC), some (.ref 0), some (.ref 505), some (.ref 574), some (.int 0), o6, o7, o8] [] (n, sl, f) Q := by
  refine b_204_1165 _ _ _ ?_
  refine mp_head hsc (fun _ => ?_) (fun z => absurd (by decide) z)
  refine b_204_1171 _ _ _ ?_
  exact k _
theorem mp_S_out {c : mi_C} {v : Int64} (h : mp_S c v (n, sl, f)) : 575 ≤ n ∧ (∀ q, 505 ≤ q → q < 574 → f q = (mp_hh mp_r2).2.2 q) ∧ f mi_SC = c ∧ ∃ g, f 574 = .inl (3, 1, .inr (.inl g)) ∧ g 0 = v := ⟨h.1.1, h.2⟩
theorem ml_feed  (hI : mp_I (.inl (0, 6, .inl xs)) n sl f) (k : ∀ h, Q (.inl (some (.int 1))) h) : mi_W (d + 4) 204 112 [some (.ref mi_SC), some (.ref 0), some (.ref 505), some (.ref 574), some (.int 0), o6, o7, o8] [] (n, sl, f) Q := by
  have hI0 := hI
  obtain ⟨⟨⟨hn, hn2, hs⟩, hP⟩, hsc, g0, ho⟩ := hI
  refine b_204_112 _ _ _ _ _ _ _ _ _ _ _ _ _ _ _ _ _ _ (by first | assumption | rfl | (exact Or.inl rfl) | (exact Or.inr rfl) | omega | (exact Nat.le_of_ble_eq_true rfl) | decide | (exact ⟨by decide, rfl, by decide⟩)) (by first | assumption | rfl | (exact Or.inl rfl) | (exact Or.inr rfl) | omega | (exact Nat.le_of_ble_eq_true rfl) | decide | (exact ⟨by decide, rfl, by decide⟩)) (by first | assumption | rfl | (exact Or.inl rfl) | (exact Or.inr rfl) | omega | (exact Nat.le_of_ble_eq_true rfl) | decide | (exact ⟨by decide, rfl, by decide⟩)) (by first | assumption | rfl | (exact Or.inl rfl) | (exact Or.inr rfl) | omega | (exact Nat.le_of_ble_eq_true rfl) | decide | (exact ⟨by decide, rfl, by decide⟩)) (by first | assumption | rfl | (exact Or.inl rfl) | (exact Or.inr rfl) | omega | (exact Nat.le_of_ble_eq_true rfl) | decide | (exact ⟨by decide, rfl, by decide⟩)) (by first | assumption | rfl | (exact Or.inl rfl) | (exact Or.inr rfl) | omega | (exact Nat.le_of_ble_eq_true rfl) | decide | (exact ⟨by decide, rfl, by decide⟩)) (by first | assumption | rfl | (exact Or.inl rfl) | (exact Or.inr rfl) | omega | (exact Nat.le_of_ble_eq_true rfl) | decide | (exact ⟨by decide, rfl, by decide⟩)) (by first | assumption | rfl | (exact Or.inl rfl) | (exact Or.inr rfl) | omega | (exact Nat.le_of_ble_eq_true rfl) | decide | (exact ⟨by decide, rfl, by decide⟩)) (by first | assumption | rfl | (exact Or.inl rfl) | (exact Or.inr rfl) | omega | (exact Nat.le_of_ble_eq_true rfl) | decide | (exact ⟨by decide, rfl, by decide⟩)) (by first | assumption | rfl | (exact Or.inl rfl) | (exact Or.inr rfl) | omega | (exact Nat.le_of_ble_eq_true rfl) | decide | (exact ⟨by decide, rfl, by decide⟩)) (by first | assumption | rfl | (exact Or.inl rfl) | (exact Or.inr rfl) | omega | (exact Nat.le_of_ble_eq_true rfl) | decide | (exact ⟨by decide, rfl, by decide⟩)) (by first | assumption | rfl | (exact Or.inl rfl) | (exact Or.inr rfl) | omega | (exact Nat.le_of_ble_eq_true rfl) | decide | (exact ⟨by decide, rfl, by decide⟩)) (by first | assumption | rfl | (exact Or.inl rfl) | (exact Or.inr rfl) | omega | (exact Nat.le_of_ble_eq_true rfl) | decide | (exact ⟨by decide, rfl, by decide⟩)) (by first | assumption | rfl | (exact Or.inl rfl) | (exact Or.inr rfl) | omega | (exact Nat.le_of_ble_eq_true rfl) | decide | (exact ⟨by decide, rfl, by decide⟩)) (by first | assumption | rfl | (exact Or.inl rfl) | (exact Or.inr rfl) | omega | (exact Nat.le_of_ble_eq_true rfl) | decide | (exact ⟨by decide, rfl, by decide⟩)) ?_
  refine sw_feed hI0 (fun h' hS => ?_)
  · obtain ⟨n, sl, f⟩ := h'
    obtain ⟨hn, hP, hsc, g, ho, hg⟩ := mp_S_out hS
    have q505 : f 505 = .inr (12, mp_M) := (hP 505 (by omega) (by omega)).trans mp_q505
    refine b_204_147 _ _ _ _ _ _ _ _ _ _ _ _ _ _ _ _ _ _ (by first | assumption | rfl | (exact Or.inl rfl) | (exact Or.inr rfl) | omega | (exact Nat.le_of_ble_eq_true rfl) | decide | (exact ⟨by decide, rfl, by decide⟩)) (by first | assumption | rfl | (exact Or.inl rfl) | (exact Or.inr rfl) | omega | (exact Nat.le_of_ble_eq_true rfl) | decide | (exact ⟨by decide, rfl, by decide⟩)) (by first | assumption | rfl | (exact Or.inl rfl) | (exact Or.inr rfl) | omega | (exact Nat.le_of_ble_eq_true rfl) | decide | (exact ⟨by decide, rfl, by decide⟩)) (by first | assumption | rfl | (exact Or.inl rfl) | (exact Or.inr rfl) | omega | (exact Nat.le_of_ble_eq_true rfl) | decide | (exact ⟨by decide, rfl, by decide⟩)) (by first | assumption | rfl | (exact Or.inl rfl) | (exact Or.inr rfl) | omega | (exact Nat.le_of_ble_eq_true rfl) | decide | (exact ⟨by decide, rfl, by decide⟩)) (by first | assumption | rfl | (exact Or.inl rfl) | (exact Or.inr rfl) | omega | (exact Nat.le_of_ble_eq_true rfl) | decide | (exact ⟨by decide, rfl, by decide⟩)) (by first | assumption | rfl | (exact Or.inl rfl) | (exact Or.inr rfl) | omega | (exact Nat.le_of_ble_eq_true rfl) | decide | (exact ⟨by decide, rfl, by decide⟩)) (by first | assumption | rfl | (exact Or.inl rfl) | (exact Or.inr rfl) | omega | (exact Nat.le_of_ble_eq_true rfl) | decide | (exact ⟨by decide, rfl, by decide⟩)) (by first | assumption | rfl | (exact Or.inl rfl) | (exact Or.inr rfl) | omega | (exact Nat.le_of_ble_eq_true rfl) | decide | (exact ⟨by decide, rfl, by decide⟩)) (by first | assumption | rfl | (exact Or.inl rfl) | (exact Or.inr rfl) | omega | (exact Nat.le_of_ble_eq_true rfl) | decide | (exact ⟨by decide, rfl, by decide⟩)) (by first | assumption | rfl | (exact Or.inl rfl) | (exact Or.inr rfl) | omega | (exact Nat.le_of_ble_eq_true rfl) | decide | (exact ⟨by decide, rfl, by decide⟩)) (by first | assumption | rfl | (exact Or.inl rfl) | (exact Or.inr rfl) | omega | (exact Nat.le_of_ble_eq_true rfl) | decide | (exact ⟨by decide, rfl, by decide⟩)) (by first | assumption | rfl | (exact Or.inl rfl) | (exact Or.inr rfl) | omega | (exact Nat.le_of_ble_eq_true rfl) | decide | (exact ⟨by decide, rfl, by decide⟩)) (by first | assumption | rfl | (exact Or.inl rfl) | (exact Or.inr rfl) | omega | (exact Nat.le_of_ble_eq_true rfl) | decide | (exact ⟨by decide, rfl, by decide⟩)) (by first | assumption | rfl | (exact Or.inl rfl) | (exact Or.inr rfl) | omega | (exact Nat.le_of_ble_eq_true rfl) | decide | (exact ⟨by decide, rfl, by decide⟩)) (by first | assumption | rfl | (exact Or.inl rfl) | (exact Or.inr rfl) | omega | (exact Nat.le_of_ble_eq_true rfl) | decide | (exact ⟨by decide, rfl, by decide⟩)) (by first | assumption | rfl | (exact Or.inl rfl) | (exact Or.inr rfl) | omega | (exact Nat.le_of_ble_eq_true rfl) | decide | (exact ⟨by decide, rfl, by decide⟩)) ?_
    refine sr_feed hn hP (fun f2 hr => ?_)
    obtain ⟨⟨fs, qm, h0⟩, hfr⟩ := hr
    have hsc2 : f2 mi_SC = .inl (0, 6, .inl xs) := (hfr _ (by have := mp_scn; omega)).trans hsc
    have ho2 : f2 574 = .inl (3, 1, .inr (.inl g)) := (hfr _ (by omega)).trans ho
    refine b_204_183 _ _ _ (by first | assumption | rfl | (exact Or.inl rfl) | (exact Or.inr rfl) | omega | (exact Nat.le_of_ble_eq_true rfl) | decide | (exact ⟨by decide, rfl, by decide⟩)) (by first | assumption | rfl | (exact Or.inl rfl) | (exact Or.inr rfl) | omega | (exact Nat.le_of_ble_eq_true rfl) | decide | (exact ⟨by decide, rfl, by decide⟩)) ?_
    refine sr_thrown hn qm h0 ?_
    refine b_204_189 _ _ _ ?_ ?_
    · intro _
      refine b_204_196 _ _ _ ?_ ?_
      · intro z
        exact absurd rfl z
      · intro _
        refine b_204_201 _ _ _ _ _ _ (by first | assumption | rfl | (exact Or.inl rfl) | (exact Or.inr rfl) | omega | (exact Nat.le_of_ble_eq_true rfl) | decide | (exact ⟨by decide, rfl, by decide⟩)) (by first | assumption | rfl | (exact Or.inl rfl) | (exact Or.inr rfl) | omega | (exact Nat.le_of_ble_eq_true rfl) | decide | (exact ⟨by decide, rfl, by decide⟩)) (by first | assumption | rfl | (exact Or.inl rfl) | (exact Or.inr rfl) | omega | (exact Nat.le_of_ble_eq_true rfl) | decide | (exact ⟨by decide, rfl, by decide⟩)) ?_ ?_
        · intro _
          refine b_204_213 _ _ _ ?_
          exact mp_tail hsc2 k
        · intro z
          refine absurd ?_ z
          rw [show g (Int32.toNatClampNeg 0) = _ from hg]
          exact lg_eq _
    · intro z
      exact absurd rfl z
theorem ml_wallet  (hI : mp_I (.inl (0, 6, .inl xs)) n sl f) (k : ∀ h, Q (.inl (some (.int 1))) h) : mi_W (d + 4) 204 285 [some (.ref mi_SC), some (.ref 0), some (.ref 505), some (.ref 574), some (.int 0), o6, o7, o8] [] (n, sl, f) Q := by
  have hI0 := hI
  obtain ⟨⟨⟨hn, hn2, hs⟩, hP⟩, hsc, g0, ho⟩ := hI
  refine b_204_285 _ _ _ _ _ _ _ _ _ _ _ _ _ _ _ (by first | assumption | rfl | (exact Or.inl rfl) | (exact Or.inr rfl) | omega | (exact Nat.le_of_ble_eq_true rfl) | decide | (exact ⟨by decide, rfl, by decide⟩)) (by first | assumption | rfl | (exact Or.inl rfl) | (exact Or.inr rfl) | omega | (exact Nat.le_of_ble_eq_true rfl) | decide | (exact ⟨by decide, rfl, by decide⟩)) (by first | assumption | rfl | (exact Or.inl rfl) | (exact Or.inr rfl) | omega | (exact Nat.le_of_ble_eq_true rfl) | decide | (exact ⟨by decide, rfl, by decide⟩)) (by first | assumption | rfl | (exact Or.inl rfl) | (exact Or.inr rfl) | omega | (exact Nat.le_of_ble_eq_true rfl) | decide | (exact ⟨by decide, rfl, by decide⟩)) (by first | assumption | rfl | (exact Or.inl rfl) | (exact Or.inr rfl) | omega | (exact Nat.le_of_ble_eq_true rfl) | decide | (exact ⟨by decide, rfl, by decide⟩)) (by first | assumption | rfl | (exact Or.inl rfl) | (exact Or.inr rfl) | omega | (exact Nat.le_of_ble_eq_true rfl) | decide | (exact ⟨by decide, rfl, by decide⟩)) (by first | assumption | rfl | (exact Or.inl rfl) | (exact Or.inr rfl) | omega | (exact Nat.le_of_ble_eq_true rfl) | decide | (exact ⟨by decide, rfl, by decide⟩)) (by first | assumption | rfl | (exact Or.inl rfl) | (exact Or.inr rfl) | omega | (exact Nat.le_of_ble_eq_true rfl) | decide | (exact ⟨by decide, rfl, by decide⟩)) (by first | assumption | rfl | (exact Or.inl rfl) | (exact Or.inr rfl) | omega | (exact Nat.le_of_ble_eq_true rfl) | decide | (exact ⟨by decide, rfl, by decide⟩)) (by first | assumption | rfl | (exact Or.inl rfl) | (exact Or.inr rfl) | omega | (exact Nat.le_of_ble_eq_true rfl) | decide | (exact ⟨by decide, rfl, by decide⟩)) (by first | assumption | rfl | (exact Or.inl rfl) | (exact Or.inr rfl) | omega | (exact Nat.le_of_ble_eq_true rfl) | decide | (exact ⟨by decide, rfl, by decide⟩)) (by first | assumption | rfl | (exact Or.inl rfl) | (exact Or.inr rfl) | omega | (exact Nat.le_of_ble_eq_true rfl) | decide | (exact ⟨by decide, rfl, by decide⟩)) ?_
  refine sw_wallet hI0 (fun hv h' hS => ?_) (fun hv v h' hS => ?_)
  · obtain ⟨n, sl, f⟩ := h'
    obtain ⟨hn, hP, hsc, g, ho, hg⟩ := mp_S_out hS
    have q505 : f 505 = .inr (12, mp_M) := (hP 505 (by omega) (by omega)).trans mp_q505
    refine b_204_324 _ _ _ _ _ _ _ _ _ _ _ _ _ _ _ (by first | assumption | rfl | (exact Or.inl rfl) | (exact Or.inr rfl) | omega | (exact Nat.le_of_ble_eq_true rfl) | decide | (exact ⟨by decide, rfl, by decide⟩)) (by first | assumption | rfl | (exact Or.inl rfl) | (exact Or.inr rfl) | omega | (exact Nat.le_of_ble_eq_true rfl) | decide | (exact ⟨by decide, rfl, by decide⟩)) (by first | assumption | rfl | (exact Or.inl rfl) | (exact Or.inr rfl) | omega | (exact Nat.le_of_ble_eq_true rfl) | decide | (exact ⟨by decide, rfl, by decide⟩)) (by first | assumption | rfl | (exact Or.inl rfl) | (exact Or.inr rfl) | omega | (exact Nat.le_of_ble_eq_true rfl) | decide | (exact ⟨by decide, rfl, by decide⟩)) (by first | assumption | rfl | (exact Or.inl rfl) | (exact Or.inr rfl) | omega | (exact Nat.le_of_ble_eq_true rfl) | decide | (exact ⟨by decide, rfl, by decide⟩)) (by first | assumption | rfl | (exact Or.inl rfl) | (exact Or.inr rfl) | omega | (exact Nat.le_of_ble_eq_true rfl) | decide | (exact ⟨by decide, rfl, by decide⟩)) (by first | assumption | rfl | (exact Or.inl rfl) | (exact Or.inr rfl) | omega | (exact Nat.le_of_ble_eq_true rfl) | decide | (exact ⟨by decide, rfl, by decide⟩)) (by first | assumption | rfl | (exact Or.inl rfl) | (exact Or.inr rfl) | omega | (exact Nat.le_of_ble_eq_true rfl) | decide | (exact ⟨by decide, rfl, by decide⟩)) (by first | assumption | rfl | (exact Or.inl rfl) | (exact Or.inr rfl) | omega | (exact Nat.le_of_ble_eq_true rfl) | decide | (exact ⟨by decide, rfl, by decide⟩)) (by first | assumption | rfl | (exact Or.inl rfl) | (exact Or.inr rfl) | omega | (exact Nat.le_of_ble_eq_true rfl) | decide | (exact ⟨by decide, rfl, by decide⟩)) (by first | assumption | rfl | (exact Or.inl rfl) | (exact Or.inr rfl) | omega | (exact Nat.le_of_ble_eq_true rfl) | decide | (exact ⟨by decide, rfl, by decide⟩)) (by first | assumption | rfl | (exact Or.inl rfl) | (exact Or.inr rfl) | omega | (exact Nat.le_of_ble_eq_true rfl) | decide | (exact ⟨by decide, rfl, by decide⟩)) (by first | assumption | rfl | (exact Or.inl rfl) | (exact Or.inr rfl) | omega | (exact Nat.le_of_ble_eq_true rfl) | decide | (exact ⟨by decide, rfl, by decide⟩)) (by first | assumption | rfl | (exact Or.inl rfl) | (exact Or.inr rfl) | omega | (exact Nat.le_of_ble_eq_true rfl) | decide | (exact ⟨by decide, rfl, by decide⟩)) ?_
    refine sr_wallet hn hP (fun hv2 f2 hr => ?_) (fun hv2 => absurd hv hv2)
    obtain ⟨⟨fs, qm, h0⟩, hfr⟩ := hr
    have hsc2 : f2 mi_SC = .inl (0, 6, .inl xs) := (hfr _ (by have := mp_scn; omega)).trans hsc
    have ho2 : f2 574 = .inl (3, 1, .inr (.inl g)) := (hfr _ (by omega)).trans ho
    refine b_204_364 _ _ _ (by first | assumption | rfl | (exact Or.inl rfl) | (exact Or.inr rfl) | omega | (exact Nat.le_of_ble_eq_true rfl) | decide | (exact ⟨by decide, rfl, by decide⟩)) (by first | assumption | rfl | (exact Or.inl rfl) | (exact Or.inr rfl) | omega | (exact Nat.le_of_ble_eq_true rfl) | decide | (exact ⟨by decide, rfl, by decide⟩)) ?_
    refine sr_thrown hn qm h0 ?_
    refine b_204_370 _ _ _ ?_ ?_
    · intro _
      refine b_204_377 _ _ _ ?_ ?_
      · intro z
        exact absurd rfl z
      · intro _
        refine b_204_382 _ _ _ _ _ _ (by first | assumption | rfl | (exact Or.inl rfl) | (exact Or.inr rfl) | omega | (exact Nat.le_of_ble_eq_true rfl) | decide | (exact ⟨by decide, rfl, by decide⟩)) (by first | assumption | rfl | (exact Or.inl rfl) | (exact Or.inr rfl) | omega | (exact Nat.le_of_ble_eq_true rfl) | decide | (exact ⟨by decide, rfl, by decide⟩)) (by first | assumption | rfl | (exact Or.inl rfl) | (exact Or.inr rfl) | omega | (exact Nat.le_of_ble_eq_true rfl) | decide | (exact ⟨by decide, rfl, by decide⟩)) ?_ ?_
        · intro _
          refine b_204_393 _ _ _ ?_
          exact mp_tail hsc2 k
        · intro z
          refine absurd ?_ z
          rw [show g (Int32.toNatClampNeg 0) = _ from hg]
          exact lg_eq _
    · intro z
      exact absurd rfl z
  · obtain ⟨n, sl, f⟩ := h'
    obtain ⟨hn, hP, hsc, g, ho, hg⟩ := mp_S_out hS
    have q505 : f 505 = .inr (12, mp_M) := (hP 505 (by omega) (by omega)).trans mp_q505
    refine b_204_324 _ _ _ _ _ _ _ _ _ _ _ _ _ _ _ (by first | assumption | rfl | (exact Or.inl rfl) | (exact Or.inr rfl) | omega | (exact Nat.le_of_ble_eq_true rfl) | decide | (exact ⟨by decide, rfl, by decide⟩)) (by first | assumption | rfl | (exact Or.inl rfl) | (exact Or.inr rfl) | omega | (exact Nat.le_of_ble_eq_true rfl) | decide | (exact ⟨by decide, rfl, by decide⟩)) (by first | assumption | rfl | (exact Or.inl rfl) | (exact Or.inr rfl) | omega | (exact Nat.le_of_ble_eq_true rfl) | decide | (exact ⟨by decide, rfl, by decide⟩)) (by first | assumption | rfl | (exact Or.inl rfl) | (exact Or.inr rfl) | omega | (exact Nat.le_of_ble_eq_true rfl) | decide | (exact ⟨by decide, rfl, by decide⟩)) (by first | assumption | rfl | (exact Or.inl rfl) | (exact Or.inr rfl) | omega | (exact Nat.le_of_ble_eq_true rfl) | decide | (exact ⟨by decide, rfl, by decide⟩)) (by first | assumption | rfl | (exact Or.inl rfl) | (exact Or.inr rfl) | omega | (exact Nat.le_of_ble_eq_true rfl) | decide | (exact ⟨by decide, rfl, by decide⟩)) (by first | assumption | rfl | (exact Or.inl rfl) | (exact Or.inr rfl) | omega | (exact Nat.le_of_ble_eq_true rfl) | decide | (exact ⟨by decide, rfl, by decide⟩)) (by first | assumption | rfl | (exact Or.inl rfl) | (exact Or.inr rfl) | omega | (exact Nat.le_of_ble_eq_true rfl) | decide | (exact ⟨by decide, rfl, by decide⟩)) (by first | assumption | rfl | (exact Or.inl rfl) | (exact Or.inr rfl) | omega | (exact Nat.le_of_ble_eq_true rfl) | decide | (exact ⟨by decide, rfl, by decide⟩)) (by first | assumption | rfl | (exact Or.inl rfl) | (exact Or.inr rfl) | omega | (exact Nat.le_of_ble_eq_true rfl) | decide | (exact ⟨by decide, rfl, by decide⟩)) (by first | assumption | rfl | (exact Or.inl rfl) | (exact Or.inr rfl) | omega | (exact Nat.le_of_ble_eq_true rfl) | decide | (exact ⟨by decide, rfl, by decide⟩)) (by first | assumption | rfl | (exact Or.inl rfl) | (exact Or.inr rfl) | omega | (exact Nat.le_of_ble_eq_true rfl) | decide | (exact ⟨by decide, rfl, by decide⟩)) (by first | assumption | rfl | (exact Or.inl rfl) | (exact Or.inr rfl) | omega | (exact Nat.le_of_ble_eq_true rfl) | decide | (exact ⟨by decide, rfl, by decide⟩)) (by first | assumption | rfl | (exact Or.inl rfl) | (exact Or.inr rfl) | omega | (exact Nat.le_of_ble_eq_true rfl) | decide | (exact ⟨by decide, rfl, by decide⟩)) ?_
    refine sr_wallet hn hP (fun hv2 => absurd hv2 hv) (fun hv2 f2 hr => ?_)
    obtain ⟨⟨fs, qm, h0⟩, hfr⟩ := hr
    have hsc2 : f2 mi_SC = .inl (0, 6, .inl xs) := (hfr _ (by have := mp_scn; omega)).trans hsc
    have ho2 : f2 574 = .inl (3, 1, .inr (.inl g)) := (hfr _ (by omega)).trans ho
    refine b_204_364 _ _ _ (by first | assumption | rfl | (exact Or.inl rfl) | (exact Or.inr rfl) | omega | (exact Nat.le_of_ble_eq_true rfl) | decide | (exact ⟨by decide, rfl, by decide⟩)) (by first | assumption | rfl | (exact Or.inl rfl) | (exact Or.inr rfl) | omega | (exact Nat.le_of_ble_eq_true rfl) | decide | (exact ⟨by decide, rfl, by decide⟩)) ?_
    refine sr_thrown hn qm h0 ?_
    refine b_204_370 _ _ _ ?_ ?_
    · intro _
      refine b_204_377 _ _ _ ?_ ?_
      · intro _
        refine b_204_393 _ _ _ ?_
        exact mp_tail hsc2 k
      · intro z
        exact absurd (by decide) z
    · intro z
      exact absurd rfl z
theorem ml_deposit  (hI : mp_I (.inl (0, 6, .inl xs)) n sl f) (k : ∀ h, Q (.inl (some (.int 1))) h) : mi_W (d + 4) 204 396 [some (.ref mi_SC), some (.ref 0), some (.ref 505), some (.ref 574), some (.int 0), o6, o7, o8] [] (n, sl, f) Q := by
  have hI0 := hI
  obtain ⟨⟨⟨hn, hn2, hs⟩, hP⟩, hsc, g0, ho⟩ := hI
  refine b_204_396 _ _ _ _ _ _ _ _ _ _ _ _ _ _ _ _ _ _ (by first | assumption | rfl | (exact Or.inl rfl) | (exact Or.inr rfl) | omega | (exact Nat.le_of_ble_eq_true rfl) | decide | (exact ⟨by decide, rfl, by decide⟩)) (by first | assumption | rfl | (exact Or.inl rfl) | (exact Or.inr rfl) | omega | (exact Nat.le_of_ble_eq_true rfl) | decide | (exact ⟨by decide, rfl, by decide⟩)) (by first | assumption | rfl | (exact Or.inl rfl) | (exact Or.inr rfl) | omega | (exact Nat.le_of_ble_eq_true rfl) | decide | (exact ⟨by decide, rfl, by decide⟩)) (by first | assumption | rfl | (exact Or.inl rfl) | (exact Or.inr rfl) | omega | (exact Nat.le_of_ble_eq_true rfl) | decide | (exact ⟨by decide, rfl, by decide⟩)) (by first | assumption | rfl | (exact Or.inl rfl) | (exact Or.inr rfl) | omega | (exact Nat.le_of_ble_eq_true rfl) | decide | (exact ⟨by decide, rfl, by decide⟩)) (by first | assumption | rfl | (exact Or.inl rfl) | (exact Or.inr rfl) | omega | (exact Nat.le_of_ble_eq_true rfl) | decide | (exact ⟨by decide, rfl, by decide⟩)) (by first | assumption | rfl | (exact Or.inl rfl) | (exact Or.inr rfl) | omega | (exact Nat.le_of_ble_eq_true rfl) | decide | (exact ⟨by decide, rfl, by decide⟩)) (by first | assumption | rfl | (exact Or.inl rfl) | (exact Or.inr rfl) | omega | (exact Nat.le_of_ble_eq_true rfl) | decide | (exact ⟨by decide, rfl, by decide⟩)) (by first | assumption | rfl | (exact Or.inl rfl) | (exact Or.inr rfl) | omega | (exact Nat.le_of_ble_eq_true rfl) | decide | (exact ⟨by decide, rfl, by decide⟩)) (by first | assumption | rfl | (exact Or.inl rfl) | (exact Or.inr rfl) | omega | (exact Nat.le_of_ble_eq_true rfl) | decide | (exact ⟨by decide, rfl, by decide⟩)) (by first | assumption | rfl | (exact Or.inl rfl) | (exact Or.inr rfl) | omega | (exact Nat.le_of_ble_eq_true rfl) | decide | (exact ⟨by decide, rfl, by decide⟩)) (by first | assumption | rfl | (exact Or.inl rfl) | (exact Or.inr rfl) | omega | (exact Nat.le_of_ble_eq_true rfl) | decide | (exact ⟨by decide, rfl, by decide⟩)) (by first | assumption | rfl | (exact Or.inl rfl) | (exact Or.inr rfl) | omega | (exact Nat.le_of_ble_eq_true rfl) | decide | (exact ⟨by decide, rfl, by decide⟩)) (by first | assumption | rfl | (exact Or.inl rfl) | (exact Or.inr rfl) | omega | (exact Nat.le_of_ble_eq_true rfl) | decide | (exact ⟨by decide, rfl, by decide⟩)) (by first | assumption | rfl | (exact Or.inl rfl) | (exact Or.inr rfl) | omega | (exact Nat.le_of_ble_eq_true rfl) | decide | (exact ⟨by decide, rfl, by decide⟩)) ?_
  refine sw_deposit hI0 (fun hv h' hS => ?_) (fun hv v h' hS => ?_)
  · obtain ⟨n, sl, f⟩ := h'
    obtain ⟨hn, hP, hsc, g, ho, hg⟩ := mp_S_out hS
    have q505 : f 505 = .inr (12, mp_M) := (hP 505 (by omega) (by omega)).trans mp_q505
    refine b_204_441 _ _ _ _ _ _ _ _ _ _ _ _ _ _ _ _ _ _ (by first | assumption | rfl | (exact Or.inl rfl) | (exact Or.inr rfl) | omega | (exact Nat.le_of_ble_eq_true rfl) | decide | (exact ⟨by decide, rfl, by decide⟩)) (by first | assumption | rfl | (exact Or.inl rfl) | (exact Or.inr rfl) | omega | (exact Nat.le_of_ble_eq_true rfl) | decide | (exact ⟨by decide, rfl, by decide⟩)) (by first | assumption | rfl | (exact Or.inl rfl) | (exact Or.inr rfl) | omega | (exact Nat.le_of_ble_eq_true rfl) | decide | (exact ⟨by decide, rfl, by decide⟩)) (by first | assumption | rfl | (exact Or.inl rfl) | (exact Or.inr rfl) | omega | (exact Nat.le_of_ble_eq_true rfl) | decide | (exact ⟨by decide, rfl, by decide⟩)) (by first | assumption | rfl | (exact Or.inl rfl) | (exact Or.inr rfl) | omega | (exact Nat.le_of_ble_eq_true rfl) | decide | (exact ⟨by decide, rfl, by decide⟩)) (by first | assumption | rfl | (exact Or.inl rfl) | (exact Or.inr rfl) | omega | (exact Nat.le_of_ble_eq_true rfl) | decide | (exact ⟨by decide, rfl, by decide⟩)) (by first | assumption | rfl | (exact Or.inl rfl) | (exact Or.inr rfl) | omega | (exact Nat.le_of_ble_eq_true rfl) | decide | (exact ⟨by decide, rfl, by decide⟩)) (by first | assumption | rfl | (exact Or.inl rfl) | (exact Or.inr rfl) | omega | (exact Nat.le_of_ble_eq_true rfl) | decide | (exact ⟨by decide, rfl, by decide⟩)) (by first | assumption | rfl | (exact Or.inl rfl) | (exact Or.inr rfl) | omega | (exact Nat.le_of_ble_eq_true rfl) | decide | (exact ⟨by decide, rfl, by decide⟩)) (by first | assumption | rfl | (exact Or.inl rfl) | (exact Or.inr rfl) | omega | (exact Nat.le_of_ble_eq_true rfl) | decide | (exact ⟨by decide, rfl, by decide⟩)) (by first | assumption | rfl | (exact Or.inl rfl) | (exact Or.inr rfl) | omega | (exact Nat.le_of_ble_eq_true rfl) | decide | (exact ⟨by decide, rfl, by decide⟩)) (by first | assumption | rfl | (exact Or.inl rfl) | (exact Or.inr rfl) | omega | (exact Nat.le_of_ble_eq_true rfl) | decide | (exact ⟨by decide, rfl, by decide⟩)) (by first | assumption | rfl | (exact Or.inl rfl) | (exact Or.inr rfl) | omega | (exact Nat.le_of_ble_eq_true rfl) | decide | (exact ⟨by decide, rfl, by decide⟩)) (by first | assumption | rfl | (exact Or.inl rfl) | (exact Or.inr rfl) | omega | (exact Nat.le_of_ble_eq_true rfl) | decide | (exact ⟨by decide, rfl, by decide⟩)) (by first | assumption | rfl | (exact Or.inl rfl) | (exact Or.inr rfl) | omega | (exact Nat.le_of_ble_eq_true rfl) | decide | (exact ⟨by decide, rfl, by decide⟩)) (by first | assumption | rfl | (exact Or.inl rfl) | (exact Or.inr rfl) | omega | (exact Nat.le_of_ble_eq_true rfl) | decide | (exact ⟨by decide, rfl, by decide⟩)) (by first | assumption | rfl | (exact Or.inl rfl) | (exact Or.inr rfl) | omega | (exact Nat.le_of_ble_eq_true rfl) | decide | (exact ⟨by decide, rfl, by decide⟩)) ?_
    refine sr_deposit hn hP (fun hv2 f2 hr => ?_) (fun hv2 => absurd hv hv2)
    obtain ⟨⟨fs, qm, h0⟩, hfr⟩ := hr
    have hsc2 : f2 mi_SC = .inl (0, 6, .inl xs) := (hfr _ (by have := mp_scn; omega)).trans hsc
    have ho2 : f2 574 = .inl (3, 1, .inr (.inl g)) := (hfr _ (by omega)).trans ho
    refine b_204_487 _ _ _ (by first | assumption | rfl | (exact Or.inl rfl) | (exact Or.inr rfl) | omega | (exact Nat.le_of_ble_eq_true rfl) | decide | (exact ⟨by decide, rfl, by decide⟩)) (by first | assumption | rfl | (exact Or.inl rfl) | (exact Or.inr rfl) | omega | (exact Nat.le_of_ble_eq_true rfl) | decide | (exact ⟨by decide, rfl, by decide⟩)) ?_
    refine sr_thrown hn qm h0 ?_
    refine b_204_493 _ _ _ ?_ ?_
    · intro _
      refine b_204_500 _ _ _ ?_ ?_
      · intro z
        exact absurd rfl z
      · intro _
        refine b_204_505 _ _ _ _ _ _ (by first | assumption | rfl | (exact Or.inl rfl) | (exact Or.inr rfl) | omega | (exact Nat.le_of_ble_eq_true rfl) | decide | (exact ⟨by decide, rfl, by decide⟩)) (by first | assumption | rfl | (exact Or.inl rfl) | (exact Or.inr rfl) | omega | (exact Nat.le_of_ble_eq_true rfl) | decide | (exact ⟨by decide, rfl, by decide⟩)) (by first | assumption | rfl | (exact Or.inl rfl) | (exact Or.inr rfl) | omega | (exact Nat.le_of_ble_eq_true rfl) | decide | (exact ⟨by decide, rfl, by decide⟩)) ?_ ?_
        · intro _
          refine b_204_517 _ _ _ ?_
          exact mp_tail hsc2 k
        · intro z
          refine absurd ?_ z
          rw [show g (Int32.toNatClampNeg 0) = _ from hg]
          exact lg_eq _
    · intro z
      exact absurd rfl z
  · obtain ⟨n, sl, f⟩ := h'
    obtain ⟨hn, hP, hsc, g, ho, hg⟩ := mp_S_out hS
    have q505 : f 505 = .inr (12, mp_M) := (hP 505 (by omega) (by omega)).trans mp_q505
    refine b_204_441 _ _ _ _ _ _ _ _ _ _ _ _ _ _ _ _ _ _ (by first | assumption | rfl | (exact Or.inl rfl) | (exact Or.inr rfl) | omega | (exact Nat.le_of_ble_eq_true rfl) | decide | (exact ⟨by decide, rfl, by decide⟩)) (by first | assumption | rfl | (exact Or.inl rfl) | (exact Or.inr rfl) | omega | (exact Nat.le_of_ble_eq_true rfl) | decide | (exact ⟨by decide, rfl, by decide⟩)) (by first | assumption | rfl | (exact Or.inl rfl) | (exact Or.inr rfl) | omega | (exact Nat.le_of_ble_eq_true rfl) | decide | (exact ⟨by decide, rfl, by decide⟩)) (by first | assumption | rfl | (exact Or.inl rfl) | (exact Or.inr rfl) | omega | (exact Nat.le_of_ble_eq_true rfl) | decide | (exact ⟨by decide, rfl, by decide⟩)) (by first | assumption | rfl | (exact Or.inl rfl) | (exact Or.inr rfl) | omega | (exact Nat.le_of_ble_eq_true rfl) | decide | (exact ⟨by decide, rfl, by decide⟩)) (by first | assumption | rfl | (exact Or.inl rfl) | (exact Or.inr rfl) | omega | (exact Nat.le_of_ble_eq_true rfl) | decide | (exact ⟨by decide, rfl, by decide⟩)) (by first | assumption | rfl | (exact Or.inl rfl) | (exact Or.inr rfl) | omega | (exact Nat.le_of_ble_eq_true rfl) | decide | (exact ⟨by decide, rfl, by decide⟩)) (by first | assumption | rfl | (exact Or.inl rfl) | (exact Or.inr rfl) | omega | (exact Nat.le_of_ble_eq_true rfl) | decide | (exact ⟨by decide, rfl, by decide⟩)) (by first | assumption | rfl | (exact Or.inl rfl) | (exact Or.inr rfl) | omega | (exact Nat.le_of_ble_eq_true rfl) | decide | (exact ⟨by decide, rfl, by decide⟩)) (by first | assumption | rfl | (exact Or.inl rfl) | (exact Or.inr rfl) | omega | (exact Nat.le_of_ble_eq_true rfl) | decide | (exact ⟨by decide, rfl, by decide⟩)) (by first | assumption | rfl | (exact Or.inl rfl) | (exact Or.inr rfl) | omega | (exact Nat.le_of_ble_eq_true rfl) | decide | (exact ⟨by decide, rfl, by decide⟩)) (by first | assumption | rfl | (exact Or.inl rfl) | (exact Or.inr rfl) | omega | (exact Nat.le_of_ble_eq_true rfl) | decide | (exact ⟨by decide, rfl, by decide⟩)) (by first | assumption | rfl | (exact Or.inl rfl) | (exact Or.inr rfl) | omega | (exact Nat.le_of_ble_eq_true rfl) | decide | (exact ⟨by decide, rfl, by decide⟩)) (by first | assumption | rfl | (exact Or.inl rfl) | (exact Or.inr rfl) | omega | (exact Nat.le_of_ble_eq_true rfl) | decide | (exact ⟨by decide, rfl, by decide⟩)) (by first | assumption | rfl | (exact Or.inl rfl) | (exact Or.inr rfl) | omega | (exact Nat.le_of_ble_eq_true rfl) | decide | (exact ⟨by decide, rfl, by decide⟩)) (by first | assumption | rfl | (exact Or.inl rfl) | (exact Or.inr rfl) | omega | (exact Nat.le_of_ble_eq_true rfl) | decide | (exact ⟨by decide, rfl, by decide⟩)) (by first | assumption | rfl | (exact Or.inl rfl) | (exact Or.inr rfl) | omega | (exact Nat.le_of_ble_eq_true rfl) | decide | (exact ⟨by decide, rfl, by decide⟩)) ?_
    refine sr_deposit hn hP (fun hv2 => absurd hv2 hv) (fun hv2 f2 hr => ?_)
    obtain ⟨⟨fs, qm, h0⟩, hfr⟩ := hr
    have hsc2 : f2 mi_SC = .inl (0, 6, .inl xs) := (hfr _ (by have := mp_scn; omega)).trans hsc
    have ho2 : f2 574 = .inl (3, 1, .inr (.inl g)) := (hfr _ (by omega)).trans ho
    refine b_204_487 _ _ _ (by first | assumption | rfl | (exact Or.inl rfl) | (exact Or.inr rfl) | omega | (exact Nat.le_of_ble_eq_true rfl) | decide | (exact ⟨by decide, rfl, by decide⟩)) (by first | assumption | rfl | (exact Or.inl rfl) | (exact Or.inr rfl) | omega | (exact Nat.le_of_ble_eq_true rfl) | decide | (exact ⟨by decide, rfl, by decide⟩)) ?_
    refine sr_thrown hn qm h0 ?_
    refine b_204_493 _ _ _ ?_ ?_
    · intro _
      refine b_204_500 _ _ _ ?_ ?_
      · intro _
        refine b_204_517 _ _ _ ?_
        exact mp_tail hsc2 k
      · intro z
        exact absurd (by decide) z
    · intro z
      exact absurd rfl z
theorem ml_choose  (hI : mp_I (.inl (0, 6, .inl xs)) n sl f) (k : ∀ h, Q (.inl (some (.int 1))) h) : mi_W (d + 4) 204 520 [some (.ref mi_SC), some (.ref 0), some (.ref 505), some (.ref 574), some (.int 0), o6, o7, o8] [] (n, sl, f) Q := by
  have hI0 := hI
  obtain ⟨⟨⟨hn, hn2, hs⟩, hP⟩, hsc, g0, ho⟩ := hI
  refine b_204_520 _ _ _ _ _ _ _ _ _ _ _ _ (by first | assumption | rfl | (exact Or.inl rfl) | (exact Or.inr rfl) | omega | (exact Nat.le_of_ble_eq_true rfl) | decide | (exact ⟨by decide, rfl, by decide⟩)) (by first | assumption | rfl | (exact Or.inl rfl) | (exact Or.inr rfl) | omega | (exact Nat.le_of_ble_eq_true rfl) | decide | (exact ⟨by decide, rfl, by decide⟩)) (by first | assumption | rfl | (exact Or.inl rfl) | (exact Or.inr rfl) | omega | (exact Nat.le_of_ble_eq_true rfl) | decide | (exact ⟨by decide, rfl, by decide⟩)) (by first | assumption | rfl | (exact Or.inl rfl) | (exact Or.inr rfl) | omega | (exact Nat.le_of_ble_eq_true rfl) | decide | (exact ⟨by decide, rfl, by decide⟩)) (by first | assumption | rfl | (exact Or.inl rfl) | (exact Or.inr rfl) | omega | (exact Nat.le_of_ble_eq_true rfl) | decide | (exact ⟨by decide, rfl, by decide⟩)) (by first | assumption | rfl | (exact Or.inl rfl) | (exact Or.inr rfl) | omega | (exact Nat.le_of_ble_eq_true rfl) | decide | (exact ⟨by decide, rfl, by decide⟩)) (by first | assumption | rfl | (exact Or.inl rfl) | (exact Or.inr rfl) | omega | (exact Nat.le_of_ble_eq_true rfl) | decide | (exact ⟨by decide, rfl, by decide⟩)) (by first | assumption | rfl | (exact Or.inl rfl) | (exact Or.inr rfl) | omega | (exact Nat.le_of_ble_eq_true rfl) | decide | (exact ⟨by decide, rfl, by decide⟩)) (by first | assumption | rfl | (exact Or.inl rfl) | (exact Or.inr rfl) | omega | (exact Nat.le_of_ble_eq_true rfl) | decide | (exact ⟨by decide, rfl, by decide⟩)) ?_
  refine sw_choose hI0 (fun hv h' hS => ?_) (fun hv v h' hS => ?_)
  · obtain ⟨n, sl, f⟩ := h'
    obtain ⟨hn, hP, hsc, g, ho, hg⟩ := mp_S_out hS
    have q505 : f 505 = .inr (12, mp_M) := (hP 505 (by omega) (by omega)).trans mp_q505
    refine b_204_553 _ _ _ _ _ _ _ _ _ _ _ _ (by first | assumption | rfl | (exact Or.inl rfl) | (exact Or.inr rfl) | omega | (exact Nat.le_of_ble_eq_true rfl) | decide | (exact ⟨by decide, rfl, by decide⟩)) (by first | assumption | rfl | (exact Or.inl rfl) | (exact Or.inr rfl) | omega | (exact Nat.le_of_ble_eq_true rfl) | decide | (exact ⟨by decide, rfl, by decide⟩)) (by first | assumption | rfl | (exact Or.inl rfl) | (exact Or.inr rfl) | omega | (exact Nat.le_of_ble_eq_true rfl) | decide | (exact ⟨by decide, rfl, by decide⟩)) (by first | assumption | rfl | (exact Or.inl rfl) | (exact Or.inr rfl) | omega | (exact Nat.le_of_ble_eq_true rfl) | decide | (exact ⟨by decide, rfl, by decide⟩)) (by first | assumption | rfl | (exact Or.inl rfl) | (exact Or.inr rfl) | omega | (exact Nat.le_of_ble_eq_true rfl) | decide | (exact ⟨by decide, rfl, by decide⟩)) (by first | assumption | rfl | (exact Or.inl rfl) | (exact Or.inr rfl) | omega | (exact Nat.le_of_ble_eq_true rfl) | decide | (exact ⟨by decide, rfl, by decide⟩)) (by first | assumption | rfl | (exact Or.inl rfl) | (exact Or.inr rfl) | omega | (exact Nat.le_of_ble_eq_true rfl) | decide | (exact ⟨by decide, rfl, by decide⟩)) (by first | assumption | rfl | (exact Or.inl rfl) | (exact Or.inr rfl) | omega | (exact Nat.le_of_ble_eq_true rfl) | decide | (exact ⟨by decide, rfl, by decide⟩)) (by first | assumption | rfl | (exact Or.inl rfl) | (exact Or.inr rfl) | omega | (exact Nat.le_of_ble_eq_true rfl) | decide | (exact ⟨by decide, rfl, by decide⟩)) (by first | assumption | rfl | (exact Or.inl rfl) | (exact Or.inr rfl) | omega | (exact Nat.le_of_ble_eq_true rfl) | decide | (exact ⟨by decide, rfl, by decide⟩)) (by first | assumption | rfl | (exact Or.inl rfl) | (exact Or.inr rfl) | omega | (exact Nat.le_of_ble_eq_true rfl) | decide | (exact ⟨by decide, rfl, by decide⟩)) ?_
    refine sr_choose hn hP (fun hv2 f2 hr => ?_) (fun hv2 => absurd hv hv2)
    obtain ⟨⟨fs, qm, h0⟩, hfr⟩ := hr
    have hsc2 : f2 mi_SC = .inl (0, 6, .inl xs) := (hfr _ (by have := mp_scn; omega)).trans hsc
    have ho2 : f2 574 = .inl (3, 1, .inr (.inl g)) := (hfr _ (by omega)).trans ho
    refine b_204_587 _ _ _ (by first | assumption | rfl | (exact Or.inl rfl) | (exact Or.inr rfl) | omega | (exact Nat.le_of_ble_eq_true rfl) | decide | (exact ⟨by decide, rfl, by decide⟩)) (by first | assumption | rfl | (exact Or.inl rfl) | (exact Or.inr rfl) | omega | (exact Nat.le_of_ble_eq_true rfl) | decide | (exact ⟨by decide, rfl, by decide⟩)) ?_
    refine sr_thrown hn qm h0 ?_
    refine b_204_593 _ _ _ ?_ ?_
    · intro _
      refine b_204_600 _ _ _ ?_ ?_
      · intro z
        exact absurd rfl z
      · intro _
        refine b_204_605 _ _ _ _ _ _ (by first | assumption | rfl | (exact Or.inl rfl) | (exact Or.inr rfl) | omega | (exact Nat.le_of_ble_eq_true rfl) | decide | (exact ⟨by decide, rfl, by decide⟩)) (by first | assumption | rfl | (exact Or.inl rfl) | (exact Or.inr rfl) | omega | (exact Nat.le_of_ble_eq_true rfl) | decide | (exact ⟨by decide, rfl, by decide⟩)) (by first | assumption | rfl | (exact Or.inl rfl) | (exact Or.inr rfl) | omega | (exact Nat.le_of_ble_eq_true rfl) | decide | (exact ⟨by decide, rfl, by decide⟩)) ?_ ?_
        · intro _
          refine b_204_617 _ _ _ ?_
          exact mp_tail hsc2 k
        · intro z
          refine absurd ?_ z
          rw [show g (Int32.toNatClampNeg 0) = _ from hg]
          exact lg_eq _
    · intro z
      exact absurd rfl z
  · obtain ⟨n, sl, f⟩ := h'
    obtain ⟨hn, hP, hsc, g, ho, hg⟩ := mp_S_out hS
    have q505 : f 505 = .inr (12, mp_M) := (hP 505 (by omega) (by omega)).trans mp_q505
    refine b_204_553 _ _ _ _ _ _ _ _ _ _ _ _ (by first | assumption | rfl | (exact Or.inl rfl) | (exact Or.inr rfl) | omega | (exact Nat.le_of_ble_eq_true rfl) | decide | (exact ⟨by decide, rfl, by decide⟩)) (by first | assumption | rfl | (exact Or.inl rfl) | (exact Or.inr rfl) | omega | (exact Nat.le_of_ble_eq_true rfl) | decide | (exact ⟨by decide, rfl, by decide⟩)) (by first | assumption | rfl | (exact Or.inl rfl) | (exact Or.inr rfl) | omega | (exact Nat.le_of_ble_eq_true rfl) | decide | (exact ⟨by decide, rfl, by decide⟩)) (by first | assumption | rfl | (exact Or.inl rfl) | (exact Or.inr rfl) | omega | (exact Nat.le_of_ble_eq_true rfl) | decide | (exact ⟨by decide, rfl, by decide⟩)) (by first | assumption | rfl | (exact Or.inl rfl) | (exact Or.inr rfl) | omega | (exact Nat.le_of_ble_eq_true rfl) | decide | (exact ⟨by decide, rfl, by decide⟩)) (by first | assumption | rfl | (exact Or.inl rfl) | (exact Or.inr rfl) | omega | (exact Nat.le_of_ble_eq_true rfl) | decide | (exact ⟨by decide, rfl, by decide⟩)) (by first | assumption | rfl | (exact Or.inl rfl) | (exact Or.inr rfl) | omega | (exact Nat.le_of_ble_eq_true rfl) | decide | (exact ⟨by decide, rfl, by decide⟩)) (by first | assumption | rfl | (exact Or.inl rfl) | (exact Or.inr rfl) | omega | (exact Nat.le_of_ble_eq_true rfl) | decide | (exact ⟨by decide, rfl, by decide⟩)) (by first | assumption | rfl | (exact Or.inl rfl) | (exact Or.inr rfl) | omega | (exact Nat.le_of_ble_eq_true rfl) | decide | (exact ⟨by decide, rfl, by decide⟩)) (by first | assumption | rfl | (exact Or.inl rfl) | (exact Or.inr rfl) | omega | (exact Nat.le_of_ble_eq_true rfl) | decide | (exact ⟨by decide, rfl, by decide⟩)) (by first | assumption | rfl | (exact Or.inl rfl) | (exact Or.inr rfl) | omega | (exact Nat.le_of_ble_eq_true rfl) | decide | (exact ⟨by decide, rfl, by decide⟩)) ?_
    refine sr_choose hn hP (fun hv2 => absurd hv2 hv) (fun hv2 f2 hr => ?_)
    obtain ⟨⟨fs, qm, h0⟩, hfr⟩ := hr
    have hsc2 : f2 mi_SC = .inl (0, 6, .inl xs) := (hfr _ (by have := mp_scn; omega)).trans hsc
    have ho2 : f2 574 = .inl (3, 1, .inr (.inl g)) := (hfr _ (by omega)).trans ho
    refine b_204_587 _ _ _ (by first | assumption | rfl | (exact Or.inl rfl) | (exact Or.inr rfl) | omega | (exact Nat.le_of_ble_eq_true rfl) | decide | (exact ⟨by decide, rfl, by decide⟩)) (by first | assumption | rfl | (exact Or.inl rfl) | (exact Or.inr rfl) | omega | (exact Nat.le_of_ble_eq_true rfl) | decide | (exact ⟨by decide, rfl, by decide⟩)) ?_
    refine sr_thrown hn qm h0 ?_
    refine b_204_593 _ _ _ ?_ ?_
    · intro _
      refine b_204_600 _ _ _ ?_ ?_
      · intro _
        refine b_204_617 _ _ _ ?_
        exact mp_tail hsc2 k
      · intro z
        exact absurd (by decide) z
    · intro z
      exact absurd rfl z
theorem ml_remind  (hI : mp_I (.inl (0, 6, .inl xs)) n sl f) (k : ∀ h, Q (.inl (some (.int 1))) h) : mi_W (d + 4) 204 620 [some (.ref mi_SC), some (.ref 0), some (.ref 505), some (.ref 574), some (.int 0), o6, o7, o8] [] (n, sl, f) Q := by
  have hI0 := hI
  obtain ⟨⟨⟨hn, hn2, hs⟩, hP⟩, hsc, g0, ho⟩ := hI
  refine b_204_620 _ _ _ ?_
  refine sw_remind hI0 (fun h' hS => ?_)
  · obtain ⟨n, sl, f⟩ := h'
    obtain ⟨hn, hP, hsc, g, ho, hg⟩ := mp_S_out hS
    have q505 : f 505 = .inr (12, mp_M) := (hP 505 (by omega) (by omega)).trans mp_q505
    refine b_204_625 _ _ _ (by first | assumption | rfl | (exact Or.inl rfl) | (exact Or.inr rfl) | omega | (exact Nat.le_of_ble_eq_true rfl) | decide | (exact ⟨by decide, rfl, by decide⟩)) (by first | assumption | rfl | (exact Or.inl rfl) | (exact Or.inr rfl) | omega | (exact Nat.le_of_ble_eq_true rfl) | decide | (exact ⟨by decide, rfl, by decide⟩)) ?_
    refine sr_remind hn hP (fun f2 hr => ?_)
    obtain ⟨⟨fs, qm, h0⟩, hfr⟩ := hr
    have hsc2 : f2 mi_SC = .inl (0, 6, .inl xs) := (hfr _ (by have := mp_scn; omega)).trans hsc
    have ho2 : f2 574 = .inl (3, 1, .inr (.inl g)) := (hfr _ (by omega)).trans ho
    refine b_204_631 _ _ _ (by first | assumption | rfl | (exact Or.inl rfl) | (exact Or.inr rfl) | omega | (exact Nat.le_of_ble_eq_true rfl) | decide | (exact ⟨by decide, rfl, by decide⟩)) (by first | assumption | rfl | (exact Or.inl rfl) | (exact Or.inr rfl) | omega | (exact Nat.le_of_ble_eq_true rfl) | decide | (exact ⟨by decide, rfl, by decide⟩)) ?_
    refine sr_thrown hn qm h0 ?_
    refine b_204_637 _ _ _ ?_ ?_
    · intro _
      refine b_204_644 _ _ _ ?_ ?_
      · intro z
        exact absurd rfl z
      · intro _
        refine b_204_649 _ _ _ _ _ _ (by first | assumption | rfl | (exact Or.inl rfl) | (exact Or.inr rfl) | omega | (exact Nat.le_of_ble_eq_true rfl) | decide | (exact ⟨by decide, rfl, by decide⟩)) (by first | assumption | rfl | (exact Or.inl rfl) | (exact Or.inr rfl) | omega | (exact Nat.le_of_ble_eq_true rfl) | decide | (exact ⟨by decide, rfl, by decide⟩)) (by first | assumption | rfl | (exact Or.inl rfl) | (exact Or.inr rfl) | omega | (exact Nat.le_of_ble_eq_true rfl) | decide | (exact ⟨by decide, rfl, by decide⟩)) ?_ ?_
        · intro _
          refine b_204_661 _ _ _ ?_
          exact mp_tail hsc2 k
        · intro z
          refine absurd ?_ z
          rw [show g (Int32.toNatClampNeg 0) = _ from hg]
          exact lg_eq _
    · intro z
      exact absurd rfl z
theorem ml_apply  (hI : mp_I (.inl (0, 6, .inl xs)) n sl f) (k : ∀ h, Q (.inl (some (.int 1))) h) : mi_W (d + 4) 204 664 [some (.ref mi_SC), some (.ref 0), some (.ref 505), some (.ref 574), some (.int 0), o6, o7, o8] [] (n, sl, f) Q := by
  have hI0 := hI
  obtain ⟨⟨⟨hn, hn2, hs⟩, hP⟩, hsc, g0, ho⟩ := hI
  refine b_204_664 _ _ _ _ _ _ _ _ _ _ _ _ _ _ _ (by first | assumption | rfl | (exact Or.inl rfl) | (exact Or.inr rfl) | omega | (exact Nat.le_of_ble_eq_true rfl) | decide | (exact ⟨by decide, rfl, by decide⟩)) (by first | assumption | rfl | (exact Or.inl rfl) | (exact Or.inr rfl) | omega | (exact Nat.le_of_ble_eq_true rfl) | decide | (exact ⟨by decide, rfl, by decide⟩)) (by first | assumption | rfl | (exact Or.inl rfl) | (exact Or.inr rfl) | omega | (exact Nat.le_of_ble_eq_true rfl) | decide | (exact ⟨by decide, rfl, by decide⟩)) (by first | assumption | rfl | (exact Or.inl rfl) | (exact Or.inr rfl) | omega | (exact Nat.le_of_ble_eq_true rfl) | decide | (exact ⟨by decide, rfl, by decide⟩)) (by first | assumption | rfl | (exact Or.inl rfl) | (exact Or.inr rfl) | omega | (exact Nat.le_of_ble_eq_true rfl) | decide | (exact ⟨by decide, rfl, by decide⟩)) (by first | assumption | rfl | (exact Or.inl rfl) | (exact Or.inr rfl) | omega | (exact Nat.le_of_ble_eq_true rfl) | decide | (exact ⟨by decide, rfl, by decide⟩)) (by first | assumption | rfl | (exact Or.inl rfl) | (exact Or.inr rfl) | omega | (exact Nat.le_of_ble_eq_true rfl) | decide | (exact ⟨by decide, rfl, by decide⟩)) (by first | assumption | rfl | (exact Or.inl rfl) | (exact Or.inr rfl) | omega | (exact Nat.le_of_ble_eq_true rfl) | decide | (exact ⟨by decide, rfl, by decide⟩)) (by first | assumption | rfl | (exact Or.inl rfl) | (exact Or.inr rfl) | omega | (exact Nat.le_of_ble_eq_true rfl) | decide | (exact ⟨by decide, rfl, by decide⟩)) (by first | assumption | rfl | (exact Or.inl rfl) | (exact Or.inr rfl) | omega | (exact Nat.le_of_ble_eq_true rfl) | decide | (exact ⟨by decide, rfl, by decide⟩)) (by first | assumption | rfl | (exact Or.inl rfl) | (exact Or.inr rfl) | omega | (exact Nat.le_of_ble_eq_true rfl) | decide | (exact ⟨by decide, rfl, by decide⟩)) (by first | assumption | rfl | (exact Or.inl rfl) | (exact Or.inr rfl) | omega | (exact Nat.le_of_ble_eq_true rfl) | decide | (exact ⟨by decide, rfl, by decide⟩)) ?_
  refine sw_apply hI0 (fun v h' hS => ?_)
  · obtain ⟨n, sl, f⟩ := h'
    obtain ⟨hn, hP, hsc, g, ho, hg⟩ := mp_S_out hS
    have q505 : f 505 = .inr (12, mp_M) := (hP 505 (by omega) (by omega)).trans mp_q505
    refine b_204_713 _ _ _ _ _ _ _ _ _ _ _ _ _ _ _ (by first | assumption | rfl | (exact Or.inl rfl) | (exact Or.inr rfl) | omega | (exact Nat.le_of_ble_eq_true rfl) | decide | (exact ⟨by decide, rfl, by decide⟩)) (by first | assumption | rfl | (exact Or.inl rfl) | (exact Or.inr rfl) | omega | (exact Nat.le_of_ble_eq_true rfl) | decide | (exact ⟨by decide, rfl, by decide⟩)) (by first | assumption | rfl | (exact Or.inl rfl) | (exact Or.inr rfl) | omega | (exact Nat.le_of_ble_eq_true rfl) | decide | (exact ⟨by decide, rfl, by decide⟩)) (by first | assumption | rfl | (exact Or.inl rfl) | (exact Or.inr rfl) | omega | (exact Nat.le_of_ble_eq_true rfl) | decide | (exact ⟨by decide, rfl, by decide⟩)) (by first | assumption | rfl | (exact Or.inl rfl) | (exact Or.inr rfl) | omega | (exact Nat.le_of_ble_eq_true rfl) | decide | (exact ⟨by decide, rfl, by decide⟩)) (by first | assumption | rfl | (exact Or.inl rfl) | (exact Or.inr rfl) | omega | (exact Nat.le_of_ble_eq_true rfl) | decide | (exact ⟨by decide, rfl, by decide⟩)) (by first | assumption | rfl | (exact Or.inl rfl) | (exact Or.inr rfl) | omega | (exact Nat.le_of_ble_eq_true rfl) | decide | (exact ⟨by decide, rfl, by decide⟩)) (by first | assumption | rfl | (exact Or.inl rfl) | (exact Or.inr rfl) | omega | (exact Nat.le_of_ble_eq_true rfl) | decide | (exact ⟨by decide, rfl, by decide⟩)) (by first | assumption | rfl | (exact Or.inl rfl) | (exact Or.inr rfl) | omega | (exact Nat.le_of_ble_eq_true rfl) | decide | (exact ⟨by decide, rfl, by decide⟩)) (by first | assumption | rfl | (exact Or.inl rfl) | (exact Or.inr rfl) | omega | (exact Nat.le_of_ble_eq_true rfl) | decide | (exact ⟨by decide, rfl, by decide⟩)) (by first | assumption | rfl | (exact Or.inl rfl) | (exact Or.inr rfl) | omega | (exact Nat.le_of_ble_eq_true rfl) | decide | (exact ⟨by decide, rfl, by decide⟩)) (by first | assumption | rfl | (exact Or.inl rfl) | (exact Or.inr rfl) | omega | (exact Nat.le_of_ble_eq_true rfl) | decide | (exact ⟨by decide, rfl, by decide⟩)) (by first | assumption | rfl | (exact Or.inl rfl) | (exact Or.inr rfl) | omega | (exact Nat.le_of_ble_eq_true rfl) | decide | (exact ⟨by decide, rfl, by decide⟩)) (by first | assumption | rfl | (exact Or.inl rfl) | (exact Or.inr rfl) | omega | (exact Nat.le_of_ble_eq_true rfl) | decide | (exact ⟨by decide, rfl, by decide⟩)) ?_
    refine sr_apply hn hP (fun f2 hr => ?_)
    obtain ⟨⟨fs, qm, h0⟩, hfr⟩ := hr
    have hsc2 : f2 mi_SC = .inl (0, 6, .inl xs) := (hfr _ (by have := mp_scn; omega)).trans hsc
    have ho2 : f2 574 = .inl (3, 1, .inr (.inl g)) := (hfr _ (by omega)).trans ho
    refine b_204_763 _ _ _ (by first | assumption | rfl | (exact Or.inl rfl) | (exact Or.inr rfl) | omega | (exact Nat.le_of_ble_eq_true rfl) | decide | (exact ⟨by decide, rfl, by decide⟩)) (by first | assumption | rfl | (exact Or.inl rfl) | (exact Or.inr rfl) | omega | (exact Nat.le_of_ble_eq_true rfl) | decide | (exact ⟨by decide, rfl, by decide⟩)) ?_
    refine sr_thrown hn qm h0 ?_
    refine b_204_769 _ _ _ ?_ ?_
    · intro _
      refine b_204_776 _ _ _ ?_ ?_
      · intro _
        refine b_204_793 _ _ _ ?_
        exact mp_tail hsc2 k
      · intro z
        exact absurd (by decide) z
    · intro z
      exact absurd rfl z
theorem ml_paid  (hI : mp_I (.inl (0, 6, .inl xs)) n sl f) (k : ∀ h, Q (.inl (some (.int 1))) h) : mi_W (d + 4) 204 864 [some (.ref mi_SC), some (.ref 0), some (.ref 505), some (.ref 574), some (.int 0), o6, o7, o8] [] (n, sl, f) Q := by
  have hI0 := hI
  obtain ⟨⟨⟨hn, hn2, hs⟩, hP⟩, hsc, g0, ho⟩ := hI
  refine b_204_864 _ _ _ _ _ _ (by first | assumption | rfl | (exact Or.inl rfl) | (exact Or.inr rfl) | omega | (exact Nat.le_of_ble_eq_true rfl) | decide | (exact ⟨by decide, rfl, by decide⟩)) (by first | assumption | rfl | (exact Or.inl rfl) | (exact Or.inr rfl) | omega | (exact Nat.le_of_ble_eq_true rfl) | decide | (exact ⟨by decide, rfl, by decide⟩)) (by first | assumption | rfl | (exact Or.inl rfl) | (exact Or.inr rfl) | omega | (exact Nat.le_of_ble_eq_true rfl) | decide | (exact ⟨by decide, rfl, by decide⟩)) ?_
  refine sw_paid hI0 (fun v h' hS => ?_)
  · obtain ⟨n, sl, f⟩ := h'
    obtain ⟨hn, hP, hsc, g, ho, hg⟩ := mp_S_out hS
    have q505 : f 505 = .inr (12, mp_M) := (hP 505 (by omega) (by omega)).trans mp_q505
    refine b_204_875 _ _ _ _ _ _ (by first | assumption | rfl | (exact Or.inl rfl) | (exact Or.inr rfl) | omega | (exact Nat.le_of_ble_eq_true rfl) | decide | (exact ⟨by decide, rfl, by decide⟩)) (by first | assumption | rfl | (exact Or.inl rfl) | (exact Or.inr rfl) | omega | (exact Nat.le_of_ble_eq_true rfl) | decide | (exact ⟨by decide, rfl, by decide⟩)) (by first | assumption | rfl | (exact Or.inl rfl) | (exact Or.inr rfl) | omega | (exact Nat.le_of_ble_eq_true rfl) | decide | (exact ⟨by decide, rfl, by decide⟩)) (by first | assumption | rfl | (exact Or.inl rfl) | (exact Or.inr rfl) | omega | (exact Nat.le_of_ble_eq_true rfl) | decide | (exact ⟨by decide, rfl, by decide⟩)) (by first | assumption | rfl | (exact Or.inl rfl) | (exact Or.inr rfl) | omega | (exact Nat.le_of_ble_eq_true rfl) | decide | (exact ⟨by decide, rfl, by decide⟩)) ?_
    refine sr_paid hn hP (fun f2 hr => ?_)
    obtain ⟨⟨fs, qm, h0⟩, hfr⟩ := hr
    have hsc2 : f2 mi_SC = .inl (0, 6, .inl xs) := (hfr _ (by have := mp_scn; omega)).trans hsc
    have ho2 : f2 574 = .inl (3, 1, .inr (.inl g)) := (hfr _ (by omega)).trans ho
    refine b_204_887 _ _ _ (by first | assumption | rfl | (exact Or.inl rfl) | (exact Or.inr rfl) | omega | (exact Nat.le_of_ble_eq_true rfl) | decide | (exact ⟨by decide, rfl, by decide⟩)) (by first | assumption | rfl | (exact Or.inl rfl) | (exact Or.inr rfl) | omega | (exact Nat.le_of_ble_eq_true rfl) | decide | (exact ⟨by decide, rfl, by decide⟩)) ?_
    refine sr_thrown hn qm h0 ?_
    refine b_204_893 _ _ _ ?_ ?_
    · intro _
      refine b_204_900 _ _ _ ?_ ?_
      · intro _
        refine b_204_916 _ _ _ ?_
        exact mp_tail hsc2 k
      · intro z
        exact absurd (by decide) z
    · intro z
      exact absurd rfl z
theorem ml_analyse  (hI : mp_I (.inl (0, 6, .inl xs)) n sl f) (k : ∀ h, Q (.inl (some (.int 1))) h) : mi_W (d + 4) 204 998 [some (.ref mi_SC), some (.ref 0), some (.ref 505), some (.ref 574), some (.int 0), o6, o7, o8] [] (n, sl, f) Q := by
  have hI0 := hI
  obtain ⟨⟨⟨hn, hn2, hs⟩, hP⟩, hsc, g0, ho⟩ := hI
  refine b_204_998 _ _ _ ?_
  refine sw_analyse hI0 (fun v h' hS => ?_)
  · obtain ⟨n, sl, f⟩ := h'
    obtain ⟨hn, hP, hsc, g, ho, hg⟩ := mp_S_out hS
    have q505 : f 505 = .inr (12, mp_M) := (hP 505 (by omega) (by omega)).trans mp_q505
    refine b_204_1003 _ _ _ (by first | assumption | rfl | (exact Or.inl rfl) | (exact Or.inr rfl) | omega | (exact Nat.le_of_ble_eq_true rfl) | decide | (exact ⟨by decide, rfl, by decide⟩)) (by first | assumption | rfl | (exact Or.inl rfl) | (exact Or.inr rfl) | omega | (exact Nat.le_of_ble_eq_true rfl) | decide | (exact ⟨by decide, rfl, by decide⟩)) ?_
    refine sr_analyse hn hP (fun f2 hr => ?_)
    obtain ⟨⟨fs, qm, h0⟩, hfr⟩ := hr
    have hsc2 : f2 mi_SC = .inl (0, 6, .inl xs) := (hfr _ (by have := mp_scn; omega)).trans hsc
    have ho2 : f2 574 = .inl (3, 1, .inr (.inl g)) := (hfr _ (by omega)).trans ho
    refine b_204_1009 _ _ _ (by first | assumption | rfl | (exact Or.inl rfl) | (exact Or.inr rfl) | omega | (exact Nat.le_of_ble_eq_true rfl) | decide | (exact ⟨by decide, rfl, by decide⟩)) (by first | assumption | rfl | (exact Or.inl rfl) | (exact Or.inr rfl) | omega | (exact Nat.le_of_ble_eq_true rfl) | decide | (exact ⟨by decide, rfl, by decide⟩)) ?_
    refine sr_thrown hn qm h0 ?_
    refine b_204_1015 _ _ _ ?_ ?_
    · intro _
      refine b_204_1022 _ _ _ ?_ ?_
      · intro _
        refine b_204_1039 _ _ _ ?_
        exact mp_tail hsc2 k
      · intro z
        exact absurd (by decide) z
    · intro z
      exact absurd rfl z
theorem ml_told  (hI : mp_I (.inl (0, 6, .inl xs)) n sl f) (k : ∀ h, Q (.inl (some (.int 1))) h) : mi_W (d + 4) 204 796 [some (.ref mi_SC), some (.ref 0), some (.ref 505), some (.ref 574), some (.int 0), o6, o7, o8] [] (n, sl, f) Q := by
  have hI0 := hI
  obtain ⟨⟨⟨hn, hn2, hs⟩, hP⟩, hsc, g0, ho⟩ := hI
  refine b_204_796 _ _ _ _ _ _ _ _ _ (by first | assumption | rfl | (exact Or.inl rfl) | (exact Or.inr rfl) | omega | (exact Nat.le_of_ble_eq_true rfl) | decide | (exact ⟨by decide, rfl, by decide⟩)) (by first | assumption | rfl | (exact Or.inl rfl) | (exact Or.inr rfl) | omega | (exact Nat.le_of_ble_eq_true rfl) | decide | (exact ⟨by decide, rfl, by decide⟩)) (by first | assumption | rfl | (exact Or.inl rfl) | (exact Or.inr rfl) | omega | (exact Nat.le_of_ble_eq_true rfl) | decide | (exact ⟨by decide, rfl, by decide⟩)) (by first | assumption | rfl | (exact Or.inl rfl) | (exact Or.inr rfl) | omega | (exact Nat.le_of_ble_eq_true rfl) | decide | (exact ⟨by decide, rfl, by decide⟩)) (by first | assumption | rfl | (exact Or.inl rfl) | (exact Or.inr rfl) | omega | (exact Nat.le_of_ble_eq_true rfl) | decide | (exact ⟨by decide, rfl, by decide⟩)) (by first | assumption | rfl | (exact Or.inl rfl) | (exact Or.inr rfl) | omega | (exact Nat.le_of_ble_eq_true rfl) | decide | (exact ⟨by decide, rfl, by decide⟩)) ?_
  refine sw_told hI0 (fun hv v h' hS => ?_) (fun hv v h' hS => ?_)
  · obtain ⟨n, sl, f⟩ := h'
    obtain ⟨hn, hP, hsc, g, ho, hg⟩ := mp_S_out hS
    have q505 : f 505 = .inr (12, mp_M) := (hP 505 (by omega) (by omega)).trans mp_q505
    refine b_204_813 _ _ _ _ _ _ _ _ _ (by first | assumption | rfl | (exact Or.inl rfl) | (exact Or.inr rfl) | omega | (exact Nat.le_of_ble_eq_true rfl) | decide | (exact ⟨by decide, rfl, by decide⟩)) (by first | assumption | rfl | (exact Or.inl rfl) | (exact Or.inr rfl) | omega | (exact Nat.le_of_ble_eq_true rfl) | decide | (exact ⟨by decide, rfl, by decide⟩)) (by first | assumption | rfl | (exact Or.inl rfl) | (exact Or.inr rfl) | omega | (exact Nat.le_of_ble_eq_true rfl) | decide | (exact ⟨by decide, rfl, by decide⟩)) (by first | assumption | rfl | (exact Or.inl rfl) | (exact Or.inr rfl) | omega | (exact Nat.le_of_ble_eq_true rfl) | decide | (exact ⟨by decide, rfl, by decide⟩)) (by first | assumption | rfl | (exact Or.inl rfl) | (exact Or.inr rfl) | omega | (exact Nat.le_of_ble_eq_true rfl) | decide | (exact ⟨by decide, rfl, by decide⟩)) (by first | assumption | rfl | (exact Or.inl rfl) | (exact Or.inr rfl) | omega | (exact Nat.le_of_ble_eq_true rfl) | decide | (exact ⟨by decide, rfl, by decide⟩)) (by first | assumption | rfl | (exact Or.inl rfl) | (exact Or.inr rfl) | omega | (exact Nat.le_of_ble_eq_true rfl) | decide | (exact ⟨by decide, rfl, by decide⟩)) (by first | assumption | rfl | (exact Or.inl rfl) | (exact Or.inr rfl) | omega | (exact Nat.le_of_ble_eq_true rfl) | decide | (exact ⟨by decide, rfl, by decide⟩)) ?_
    refine sr_told hn hP (fun hv2 f2 hr => ?_) (fun hv2 => absurd hv2 hv)
    obtain ⟨⟨fs, qm, h0⟩, hfr⟩ := hr
    have hsc2 : f2 mi_SC = .inl (0, 6, .inl xs) := (hfr _ (by have := mp_scn; omega)).trans hsc
    have ho2 : f2 574 = .inl (3, 1, .inr (.inl g)) := (hfr _ (by omega)).trans ho
    refine b_204_831 _ _ _ (by first | assumption | rfl | (exact Or.inl rfl) | (exact Or.inr rfl) | omega | (exact Nat.le_of_ble_eq_true rfl) | decide | (exact ⟨by decide, rfl, by decide⟩)) (by first | assumption | rfl | (exact Or.inl rfl) | (exact Or.inr rfl) | omega | (exact Nat.le_of_ble_eq_true rfl) | decide | (exact ⟨by decide, rfl, by decide⟩)) ?_
    refine sr_thrown hn qm h0 ?_
    refine b_204_837 _ _ _ ?_ ?_
    · intro _
      refine b_204_844 _ _ _ ?_ ?_
      · intro _
        refine b_204_861 _ _ _ ?_
        exact mp_tail hsc2 k
      · intro z
        exact absurd (by decide) z
    · intro z
      exact absurd rfl z
  · obtain ⟨n, sl, f⟩ := h'
    obtain ⟨hn, hP, hsc, g, ho, hg⟩ := mp_S_out hS
    have q505 : f 505 = .inr (12, mp_M) := (hP 505 (by omega) (by omega)).trans mp_q505
    refine b_204_813 _ _ _ _ _ _ _ _ _ (by first | assumption | rfl | (exact Or.inl rfl) | (exact Or.inr rfl) | omega | (exact Nat.le_of_ble_eq_true rfl) | decide | (exact ⟨by decide, rfl, by decide⟩)) (by first | assumption | rfl | (exact Or.inl rfl) | (exact Or.inr rfl) | omega | (exact Nat.le_of_ble_eq_true rfl) | decide | (exact ⟨by decide, rfl, by decide⟩)) (by first | assumption | rfl | (exact Or.inl rfl) | (exact Or.inr rfl) | omega | (exact Nat.le_of_ble_eq_true rfl) | decide | (exact ⟨by decide, rfl, by decide⟩)) (by first | assumption | rfl | (exact Or.inl rfl) | (exact Or.inr rfl) | omega | (exact Nat.le_of_ble_eq_true rfl) | decide | (exact ⟨by decide, rfl, by decide⟩)) (by first | assumption | rfl | (exact Or.inl rfl) | (exact Or.inr rfl) | omega | (exact Nat.le_of_ble_eq_true rfl) | decide | (exact ⟨by decide, rfl, by decide⟩)) (by first | assumption | rfl | (exact Or.inl rfl) | (exact Or.inr rfl) | omega | (exact Nat.le_of_ble_eq_true rfl) | decide | (exact ⟨by decide, rfl, by decide⟩)) (by first | assumption | rfl | (exact Or.inl rfl) | (exact Or.inr rfl) | omega | (exact Nat.le_of_ble_eq_true rfl) | decide | (exact ⟨by decide, rfl, by decide⟩)) (by first | assumption | rfl | (exact Or.inl rfl) | (exact Or.inr rfl) | omega | (exact Nat.le_of_ble_eq_true rfl) | decide | (exact ⟨by decide, rfl, by decide⟩)) ?_
    refine sr_told hn hP (fun hv2 => absurd hv hv2) (fun hv2 f2 hr => ?_)
    obtain ⟨⟨fs, qm, h0⟩, hfr⟩ := hr
    have hsc2 : f2 mi_SC = .inl (0, 6, .inl xs) := (hfr _ (by have := mp_scn; omega)).trans hsc
    have ho2 : f2 574 = .inl (3, 1, .inr (.inl g)) := (hfr _ (by omega)).trans ho
    refine b_204_831 _ _ _ (by first | assumption | rfl | (exact Or.inl rfl) | (exact Or.inr rfl) | omega | (exact Nat.le_of_ble_eq_true rfl) | decide | (exact ⟨by decide, rfl, by decide⟩)) (by first | assumption | rfl | (exact Or.inl rfl) | (exact Or.inr rfl) | omega | (exact Nat.le_of_ble_eq_true rfl) | decide | (exact ⟨by decide, rfl, by decide⟩)) ?_
    refine sr_thrown hn qm h0 ?_
    refine b_204_837 _ _ _ ?_ ?_
    · intro _
      refine b_204_844 _ _ _ ?_ ?_
      · intro _
        refine b_204_861 _ _ _ ?_
        exact mp_tail hsc2 k
      · intro z
        exact absurd (by decide) z
    · intro z
      exact absurd rfl z
theorem ml_step  (hI : mp_I (.inl (0, 6, .inl xs)) n sl f) (k : ∀ h, Q (.inl (some (.int 1))) h) : mi_W (d + 4) 204 1042 [some (.ref mi_SC), some (.ref 0), some (.ref 505), some (.ref 574), some (.int 0), o6, o7, o8] [] (n, sl, f) Q := by
  have hI0 := hI
  obtain ⟨⟨⟨hn, hn2, hs⟩, hP⟩, hsc, g0, ho⟩ := hI
  refine b_204_1042 _ _ _ _ _ _ _ _ _ (by first | assumption | rfl | (exact Or.inl rfl) | (exact Or.inr rfl) | omega | (exact Nat.le_of_ble_eq_true rfl) | decide | (exact ⟨by decide, rfl, by decide⟩)) (by first | assumption | rfl | (exact Or.inl rfl) | (exact Or.inr rfl) | omega | (exact Nat.le_of_ble_eq_true rfl) | decide | (exact ⟨by decide, rfl, by decide⟩)) (by first | assumption | rfl | (exact Or.inl rfl) | (exact Or.inr rfl) | omega | (exact Nat.le_of_ble_eq_true rfl) | decide | (exact ⟨by decide, rfl, by decide⟩)) (by first | assumption | rfl | (exact Or.inl rfl) | (exact Or.inr rfl) | omega | (exact Nat.le_of_ble_eq_true rfl) | decide | (exact ⟨by decide, rfl, by decide⟩)) (by first | assumption | rfl | (exact Or.inl rfl) | (exact Or.inr rfl) | omega | (exact Nat.le_of_ble_eq_true rfl) | decide | (exact ⟨by decide, rfl, by decide⟩)) (by first | assumption | rfl | (exact Or.inl rfl) | (exact Or.inr rfl) | omega | (exact Nat.le_of_ble_eq_true rfl) | decide | (exact ⟨by decide, rfl, by decide⟩)) ?_
  refine sw_step hI0 (fun hv v h' hS => ?_) (fun hv v h' hS => ?_)
  · obtain ⟨n, sl, f⟩ := h'
    obtain ⟨hn, hP, hsc, g, ho, hg⟩ := mp_S_out hS
    have q505 : f 505 = .inr (12, mp_M) := (hP 505 (by omega) (by omega)).trans mp_q505
    refine b_204_1059 _ _ _ _ _ _ _ _ _ (by first | assumption | rfl | (exact Or.inl rfl) | (exact Or.inr rfl) | omega | (exact Nat.le_of_ble_eq_true rfl) | decide | (exact ⟨by decide, rfl, by decide⟩)) (by first | assumption | rfl | (exact Or.inl rfl) | (exact Or.inr rfl) | omega | (exact Nat.le_of_ble_eq_true rfl) | decide | (exact ⟨by decide, rfl, by decide⟩)) (by first | assumption | rfl | (exact Or.inl rfl) | (exact Or.inr rfl) | omega | (exact Nat.le_of_ble_eq_true rfl) | decide | (exact ⟨by decide, rfl, by decide⟩)) (by first | assumption | rfl | (exact Or.inl rfl) | (exact Or.inr rfl) | omega | (exact Nat.le_of_ble_eq_true rfl) | decide | (exact ⟨by decide, rfl, by decide⟩)) (by first | assumption | rfl | (exact Or.inl rfl) | (exact Or.inr rfl) | omega | (exact Nat.le_of_ble_eq_true rfl) | decide | (exact ⟨by decide, rfl, by decide⟩)) (by first | assumption | rfl | (exact Or.inl rfl) | (exact Or.inr rfl) | omega | (exact Nat.le_of_ble_eq_true rfl) | decide | (exact ⟨by decide, rfl, by decide⟩)) (by first | assumption | rfl | (exact Or.inl rfl) | (exact Or.inr rfl) | omega | (exact Nat.le_of_ble_eq_true rfl) | decide | (exact ⟨by decide, rfl, by decide⟩)) (by first | assumption | rfl | (exact Or.inl rfl) | (exact Or.inr rfl) | omega | (exact Nat.le_of_ble_eq_true rfl) | decide | (exact ⟨by decide, rfl, by decide⟩)) ?_
    refine sr_step hn hP (fun hv2 f2 hr => ?_) (fun hv2 => absurd hv2 hv)
    obtain ⟨⟨fs, qm, h0⟩, hfr⟩ := hr
    have hsc2 : f2 mi_SC = .inl (0, 6, .inl xs) := (hfr _ (by have := mp_scn; omega)).trans hsc
    have ho2 : f2 574 = .inl (3, 1, .inr (.inl g)) := (hfr _ (by omega)).trans ho
    refine b_204_1077 _ _ _ (by first | assumption | rfl | (exact Or.inl rfl) | (exact Or.inr rfl) | omega | (exact Nat.le_of_ble_eq_true rfl) | decide | (exact ⟨by decide, rfl, by decide⟩)) (by first | assumption | rfl | (exact Or.inl rfl) | (exact Or.inr rfl) | omega | (exact Nat.le_of_ble_eq_true rfl) | decide | (exact ⟨by decide, rfl, by decide⟩)) ?_
    refine sr_thrown hn qm h0 ?_
    refine b_204_1083 _ _ _ ?_ ?_
    · intro _
      refine b_204_1090 _ _ _ ?_ ?_
      · intro _
        refine b_204_1106 _ _ _ ?_
        exact mp_tail hsc2 k
      · intro z
        exact absurd (by decide) z
    · intro z
      exact absurd rfl z
  · obtain ⟨n, sl, f⟩ := h'
    obtain ⟨hn, hP, hsc, g, ho, hg⟩ := mp_S_out hS
    have q505 : f 505 = .inr (12, mp_M) := (hP 505 (by omega) (by omega)).trans mp_q505
    refine b_204_1059 _ _ _ _ _ _ _ _ _ (by first | assumption | rfl | (exact Or.inl rfl) | (exact Or.inr rfl) | omega | (exact Nat.le_of_ble_eq_true rfl) | decide | (exact ⟨by decide, rfl, by decide⟩)) (by first | assumption | rfl | (exact Or.inl rfl) | (exact Or.inr rfl) | omega | (exact Nat.le_of_ble_eq_true rfl) | decide | (exact ⟨by decide, rfl, by decide⟩)) (by first | assumption | rfl | (exact Or.inl rfl) | (exact Or.inr rfl) | omega | (exact Nat.le_of_ble_eq_true rfl) | decide | (exact ⟨by decide, rfl, by decide⟩)) (by first | assumption | rfl | (exact Or.inl rfl) | (exact Or.inr rfl) | omega | (exact Nat.le_of_ble_eq_true rfl) | decide | (exact ⟨by decide, rfl, by decide⟩)) (by first | assumption | rfl | (exact Or.inl rfl) | (exact Or.inr rfl) | omega | (exact Nat.le_of_ble_eq_true rfl) | decide | (exact ⟨by decide, rfl, by decide⟩)) (by first | assumption | rfl | (exact Or.inl rfl) | (exact Or.inr rfl) | omega | (exact Nat.le_of_ble_eq_true rfl) | decide | (exact ⟨by decide, rfl, by decide⟩)) (by first | assumption | rfl | (exact Or.inl rfl) | (exact Or.inr rfl) | omega | (exact Nat.le_of_ble_eq_true rfl) | decide | (exact ⟨by decide, rfl, by decide⟩)) (by first | assumption | rfl | (exact Or.inl rfl) | (exact Or.inr rfl) | omega | (exact Nat.le_of_ble_eq_true rfl) | decide | (exact ⟨by decide, rfl, by decide⟩)) ?_
    refine sr_step hn hP (fun hv2 => absurd hv hv2) (fun hv2 f2 hr => ?_)
    obtain ⟨⟨fs, qm, h0⟩, hfr⟩ := hr
    have hsc2 : f2 mi_SC = .inl (0, 6, .inl xs) := (hfr _ (by have := mp_scn; omega)).trans hsc
    have ho2 : f2 574 = .inl (3, 1, .inr (.inl g)) := (hfr _ (by omega)).trans ho
    refine b_204_1077 _ _ _ (by first | assumption | rfl | (exact Or.inl rfl) | (exact Or.inr rfl) | omega | (exact Nat.le_of_ble_eq_true rfl) | decide | (exact ⟨by decide, rfl, by decide⟩)) (by first | assumption | rfl | (exact Or.inl rfl) | (exact Or.inr rfl) | omega | (exact Nat.le_of_ble_eq_true rfl) | decide | (exact ⟨by decide, rfl, by decide⟩)) ?_
    refine sr_thrown hn qm h0 ?_
    refine b_204_1083 _ _ _ ?_ ?_
    · intro _
      refine b_204_1090 _ _ _ ?_ ?_
      · intro _
        refine b_204_1106 _ _ _ ?_
        exact mp_tail hsc2 k
      · intro z
        exact absurd (by decide) z
    · intro z
      exact absurd rfl z
theorem ml_count  (hI : mp_I (.inl (0, 6, .inl xs)) n sl f) (k : ∀ h, Q (.inl (some (.int 1))) h) : mi_W (d + 4) 204 1109 [some (.ref mi_SC), some (.ref 0), some (.ref 505), some (.ref 574), some (.int 0), o6, o7, o8] [] (n, sl, f) Q := by
  have hI0 := hI
  obtain ⟨⟨⟨hn, hn2, hs⟩, hP⟩, hsc, g0, ho⟩ := hI
  refine b_204_1109 _ _ _ _ _ _ (by first | assumption | rfl | (exact Or.inl rfl) | (exact Or.inr rfl) | omega | (exact Nat.le_of_ble_eq_true rfl) | decide | (exact ⟨by decide, rfl, by decide⟩)) (by first | assumption | rfl | (exact Or.inl rfl) | (exact Or.inr rfl) | omega | (exact Nat.le_of_ble_eq_true rfl) | decide | (exact ⟨by decide, rfl, by decide⟩)) (by first | assumption | rfl | (exact Or.inl rfl) | (exact Or.inr rfl) | omega | (exact Nat.le_of_ble_eq_true rfl) | decide | (exact ⟨by decide, rfl, by decide⟩)) ?_
  refine sw_count hI0 (fun hv v h' hS => ?_) (fun hv h' hS => ?_)
  · obtain ⟨n, sl, f⟩ := h'
    obtain ⟨hn, hP, hsc, g, ho, hg⟩ := mp_S_out hS
    have q505 : f 505 = .inr (12, mp_M) := (hP 505 (by omega) (by omega)).trans mp_q505
    refine b_204_1120 _ _ _ _ _ _ (by first | assumption | rfl | (exact Or.inl rfl) | (exact Or.inr rfl) | omega | (exact Nat.le_of_ble_eq_true rfl) | decide | (exact ⟨by decide, rfl, by decide⟩)) (by first | assumption | rfl | (exact Or.inl rfl) | (exact Or.inr rfl) | omega | (exact Nat.le_of_ble_eq_true rfl) | decide | (exact ⟨by decide, rfl, by decide⟩)) (by first | assumption | rfl | (exact Or.inl rfl) | (exact Or.inr rfl) | omega | (exact Nat.le_of_ble_eq_true rfl) | decide | (exact ⟨by decide, rfl, by decide⟩)) (by first | assumption | rfl | (exact Or.inl rfl) | (exact Or.inr rfl) | omega | (exact Nat.le_of_ble_eq_true rfl) | decide | (exact ⟨by decide, rfl, by decide⟩)) (by first | assumption | rfl | (exact Or.inl rfl) | (exact Or.inr rfl) | omega | (exact Nat.le_of_ble_eq_true rfl) | decide | (exact ⟨by decide, rfl, by decide⟩)) ?_
    refine sr_count hn hP (fun hv2 f2 hr => ?_) (fun hv2 => absurd hv2 hv)
    obtain ⟨⟨fs, qm, h0⟩, hfr⟩ := hr
    have hsc2 : f2 mi_SC = .inl (0, 6, .inl xs) := (hfr _ (by have := mp_scn; omega)).trans hsc
    have ho2 : f2 574 = .inl (3, 1, .inr (.inl g)) := (hfr _ (by omega)).trans ho
    refine b_204_1132 _ _ _ (by first | assumption | rfl | (exact Or.inl rfl) | (exact Or.inr rfl) | omega | (exact Nat.le_of_ble_eq_true rfl) | decide | (exact ⟨by decide, rfl, by decide⟩)) (by first | assumption | rfl | (exact Or.inl rfl) | (exact Or.inr rfl) | omega | (exact Nat.le_of_ble_eq_true rfl) | decide | (exact ⟨by decide, rfl, by decide⟩)) ?_
    refine sr_thrown hn qm h0 ?_
    refine b_204_1138 _ _ _ ?_ ?_
    · intro _
      refine b_204_1145 _ _ _ ?_ ?_
      · intro _
        refine b_204_1162 _ _ _ ?_
        exact mp_tail hsc2 k
      · intro z
        exact absurd (by decide) z
    · intro z
      exact absurd rfl z
  · obtain ⟨n, sl, f⟩ := h'
    obtain ⟨hn, hP, hsc, g, ho, hg⟩ := mp_S_out hS
    have q505 : f 505 = .inr (12, mp_M) := (hP 505 (by omega) (by omega)).trans mp_q505
    refine b_204_1120 _ _ _ _ _ _ (by first | assumption | rfl | (exact Or.inl rfl) | (exact Or.inr rfl) | omega | (exact Nat.le_of_ble_eq_true rfl) | decide | (exact ⟨by decide, rfl, by decide⟩)) (by first | assumption | rfl | (exact Or.inl rfl) | (exact Or.inr rfl) | omega | (exact Nat.le_of_ble_eq_true rfl) | decide | (exact ⟨by decide, rfl, by decide⟩)) (by first | assumption | rfl | (exact Or.inl rfl) | (exact Or.inr rfl) | omega | (exact Nat.le_of_ble_eq_true rfl) | decide | (exact ⟨by decide, rfl, by decide⟩)) (by first | assumption | rfl | (exact Or.inl rfl) | (exact Or.inr rfl) | omega | (exact Nat.le_of_ble_eq_true rfl) | decide | (exact ⟨by decide, rfl, by decide⟩)) (by first | assumption | rfl | (exact Or.inl rfl) | (exact Or.inr rfl) | omega | (exact Nat.le_of_ble_eq_true rfl) | decide | (exact ⟨by decide, rfl, by decide⟩)) ?_
    refine sr_count hn hP (fun hv2 => absurd hv hv2) (fun hv2 f2 hr => ?_)
    obtain ⟨⟨fs, qm, h0⟩, hfr⟩ := hr
    have hsc2 : f2 mi_SC = .inl (0, 6, .inl xs) := (hfr _ (by have := mp_scn; omega)).trans hsc
    have ho2 : f2 574 = .inl (3, 1, .inr (.inl g)) := (hfr _ (by omega)).trans ho
    refine b_204_1132 _ _ _ (by first | assumption | rfl | (exact Or.inl rfl) | (exact Or.inr rfl) | omega | (exact Nat.le_of_ble_eq_true rfl) | decide | (exact ⟨by decide, rfl, by decide⟩)) (by first | assumption | rfl | (exact Or.inl rfl) | (exact Or.inr rfl) | omega | (exact Nat.le_of_ble_eq_true rfl) | decide | (exact ⟨by decide, rfl, by decide⟩)) ?_
    refine sr_thrown hn qm h0 ?_
    refine b_204_1138 _ _ _ ?_ ?_
    · intro _
      refine b_204_1145 _ _ _ ?_ ?_
      · intro z
        exact absurd rfl z
      · intro _
        refine b_204_1150 _ _ _ _ _ _ (by first | assumption | rfl | (exact Or.inl rfl) | (exact Or.inr rfl) | omega | (exact Nat.le_of_ble_eq_true rfl) | decide | (exact ⟨by decide, rfl, by decide⟩)) (by first | assumption | rfl | (exact Or.inl rfl) | (exact Or.inr rfl) | omega | (exact Nat.le_of_ble_eq_true rfl) | decide | (exact ⟨by decide, rfl, by decide⟩)) (by first | assumption | rfl | (exact Or.inl rfl) | (exact Or.inr rfl) | omega | (exact Nat.le_of_ble_eq_true rfl) | decide | (exact ⟨by decide, rfl, by decide⟩)) ?_ ?_
        · intro _
          refine b_204_1162 _ _ _ ?_
          exact mp_tail hsc2 k
        · intro z
          refine absurd ?_ z
          rw [show g (Int32.toNatClampNeg 0) = _ from hg]
          exact lg_eq _
    · intro z
      exact absurd rfl z
theorem ml_state  (hI : mp_I (.inl (0, 6, .inl xs)) n sl f) (k : ∀ h, Q (.inl (some (.int 1))) h) : mi_W (d + 4) 204 919 [some (.ref mi_SC), some (.ref 0), some (.ref 505), some (.ref 574), some (.int 0), o6, o7, o8] [] (n, sl, f) Q := by
  have hI0 := hI
  obtain ⟨⟨⟨hn, hn2, hs⟩, hP⟩, hsc, g0, ho⟩ := hI
  refine b_204_919 _ _ _ _ _ _ _ _ _ _ _ _ (by first | assumption | rfl | (exact Or.inl rfl) | (exact Or.inr rfl) | omega | (exact Nat.le_of_ble_eq_true rfl) | decide | (exact ⟨by decide, rfl, by decide⟩)) (by first | assumption | rfl | (exact Or.inl rfl) | (exact Or.inr rfl) | omega | (exact Nat.le_of_ble_eq_true rfl) | decide | (exact ⟨by decide, rfl, by decide⟩)) (by first | assumption | rfl | (exact Or.inl rfl) | (exact Or.inr rfl) | omega | (exact Nat.le_of_ble_eq_true rfl) | decide | (exact ⟨by decide, rfl, by decide⟩)) (by first | assumption | rfl | (exact Or.inl rfl) | (exact Or.inr rfl) | omega | (exact Nat.le_of_ble_eq_true rfl) | decide | (exact ⟨by decide, rfl, by decide⟩)) (by first | assumption | rfl | (exact Or.inl rfl) | (exact Or.inr rfl) | omega | (exact Nat.le_of_ble_eq_true rfl) | decide | (exact ⟨by decide, rfl, by decide⟩)) (by first | assumption | rfl | (exact Or.inl rfl) | (exact Or.inr rfl) | omega | (exact Nat.le_of_ble_eq_true rfl) | decide | (exact ⟨by decide, rfl, by decide⟩)) (by first | assumption | rfl | (exact Or.inl rfl) | (exact Or.inr rfl) | omega | (exact Nat.le_of_ble_eq_true rfl) | decide | (exact ⟨by decide, rfl, by decide⟩)) (by first | assumption | rfl | (exact Or.inl rfl) | (exact Or.inr rfl) | omega | (exact Nat.le_of_ble_eq_true rfl) | decide | (exact ⟨by decide, rfl, by decide⟩)) (by first | assumption | rfl | (exact Or.inl rfl) | (exact Or.inr rfl) | omega | (exact Nat.le_of_ble_eq_true rfl) | decide | (exact ⟨by decide, rfl, by decide⟩)) ?_
  refine sw_state hI0 (fun hv v h' hS => ?_) (fun hv h' hS => ?_) (fun hv v h' hS => ?_)
  · obtain ⟨n, sl, f⟩ := h'
    obtain ⟨hn, hP, hsc, g, ho, hg⟩ := mp_S_out hS
    have q505 : f 505 = .inr (12, mp_M) := (hP 505 (by omega) (by omega)).trans mp_q505
    refine b_204_942 _ _ _ _ _ _ _ _ _ _ _ _ (by first | assumption | rfl | (exact Or.inl rfl) | (exact Or.inr rfl) | omega | (exact Nat.le_of_ble_eq_true rfl) | decide | (exact ⟨by decide, rfl, by decide⟩)) (by first | assumption | rfl | (exact Or.inl rfl) | (exact Or.inr rfl) | omega | (exact Nat.le_of_ble_eq_true rfl) | decide | (exact ⟨by decide, rfl, by decide⟩)) (by first | assumption | rfl | (exact Or.inl rfl) | (exact Or.inr rfl) | omega | (exact Nat.le_of_ble_eq_true rfl) | decide | (exact ⟨by decide, rfl, by decide⟩)) (by first | assumption | rfl | (exact Or.inl rfl) | (exact Or.inr rfl) | omega | (exact Nat.le_of_ble_eq_true rfl) | decide | (exact ⟨by decide, rfl, by decide⟩)) (by first | assumption | rfl | (exact Or.inl rfl) | (exact Or.inr rfl) | omega | (exact Nat.le_of_ble_eq_true rfl) | decide | (exact ⟨by decide, rfl, by decide⟩)) (by first | assumption | rfl | (exact Or.inl rfl) | (exact Or.inr rfl) | omega | (exact Nat.le_of_ble_eq_true rfl) | decide | (exact ⟨by decide, rfl, by decide⟩)) (by first | assumption | rfl | (exact Or.inl rfl) | (exact Or.inr rfl) | omega | (exact Nat.le_of_ble_eq_true rfl) | decide | (exact ⟨by decide, rfl, by decide⟩)) (by first | assumption | rfl | (exact Or.inl rfl) | (exact Or.inr rfl) | omega | (exact Nat.le_of_ble_eq_true rfl) | decide | (exact ⟨by decide, rfl, by decide⟩)) (by first | assumption | rfl | (exact Or.inl rfl) | (exact Or.inr rfl) | omega | (exact Nat.le_of_ble_eq_true rfl) | decide | (exact ⟨by decide, rfl, by decide⟩)) (by first | assumption | rfl | (exact Or.inl rfl) | (exact Or.inr rfl) | omega | (exact Nat.le_of_ble_eq_true rfl) | decide | (exact ⟨by decide, rfl, by decide⟩)) (by first | assumption | rfl | (exact Or.inl rfl) | (exact Or.inr rfl) | omega | (exact Nat.le_of_ble_eq_true rfl) | decide | (exact ⟨by decide, rfl, by decide⟩)) ?_
    refine sr_state hn hP (fun hv2 f2 hr => ?_) (fun hv2 => absurd hv2 hv) (fun hv2 => absurd hv2 hv)
    obtain ⟨⟨fs, qm, h0⟩, hfr⟩ := hr
    have hsc2 : f2 mi_SC = .inl (0, 6, .inl xs) := (hfr _ (by have := mp_scn; omega)).trans hsc
    have ho2 : f2 574 = .inl (3, 1, .inr (.inl g)) := (hfr _ (by omega)).trans ho
    refine b_204_966 _ _ _ (by first | assumption | rfl | (exact Or.inl rfl) | (exact Or.inr rfl) | omega | (exact Nat.le_of_ble_eq_true rfl) | decide | (exact ⟨by decide, rfl, by decide⟩)) (by first | assumption | rfl | (exact Or.inl rfl) | (exact Or.inr rfl) | omega | (exact Nat.le_of_ble_eq_true rfl) | decide | (exact ⟨by decide, rfl, by decide⟩)) ?_
    refine sr_thrown hn qm h0 ?_
    refine b_204_972 _ _ _ ?_ ?_
    · intro _
      refine b_204_979 _ _ _ ?_ ?_
      · intro _
        refine b_204_995 _ _ _ ?_
        exact mp_tail hsc2 k
      · intro z
        exact absurd (by decide) z
    · intro z
      exact absurd rfl z
  · obtain ⟨n, sl, f⟩ := h'
    obtain ⟨hn, hP, hsc, g, ho, hg⟩ := mp_S_out hS
    have q505 : f 505 = .inr (12, mp_M) := (hP 505 (by omega) (by omega)).trans mp_q505
    refine b_204_942 _ _ _ _ _ _ _ _ _ _ _ _ (by first | assumption | rfl | (exact Or.inl rfl) | (exact Or.inr rfl) | omega | (exact Nat.le_of_ble_eq_true rfl) | decide | (exact ⟨by decide, rfl, by decide⟩)) (by first | assumption | rfl | (exact Or.inl rfl) | (exact Or.inr rfl) | omega | (exact Nat.le_of_ble_eq_true rfl) | decide | (exact ⟨by decide, rfl, by decide⟩)) (by first | assumption | rfl | (exact Or.inl rfl) | (exact Or.inr rfl) | omega | (exact Nat.le_of_ble_eq_true rfl) | decide | (exact ⟨by decide, rfl, by decide⟩)) (by first | assumption | rfl | (exact Or.inl rfl) | (exact Or.inr rfl) | omega | (exact Nat.le_of_ble_eq_true rfl) | decide | (exact ⟨by decide, rfl, by decide⟩)) (by first | assumption | rfl | (exact Or.inl rfl) | (exact Or.inr rfl) | omega | (exact Nat.le_of_ble_eq_true rfl) | decide | (exact ⟨by decide, rfl, by decide⟩)) (by first | assumption | rfl | (exact Or.inl rfl) | (exact Or.inr rfl) | omega | (exact Nat.le_of_ble_eq_true rfl) | decide | (exact ⟨by decide, rfl, by decide⟩)) (by first | assumption | rfl | (exact Or.inl rfl) | (exact Or.inr rfl) | omega | (exact Nat.le_of_ble_eq_true rfl) | decide | (exact ⟨by decide, rfl, by decide⟩)) (by first | assumption | rfl | (exact Or.inl rfl) | (exact Or.inr rfl) | omega | (exact Nat.le_of_ble_eq_true rfl) | decide | (exact ⟨by decide, rfl, by decide⟩)) (by first | assumption | rfl | (exact Or.inl rfl) | (exact Or.inr rfl) | omega | (exact Nat.le_of_ble_eq_true rfl) | decide | (exact ⟨by decide, rfl, by decide⟩)) (by first | assumption | rfl | (exact Or.inl rfl) | (exact Or.inr rfl) | omega | (exact Nat.le_of_ble_eq_true rfl) | decide | (exact ⟨by decide, rfl, by decide⟩)) (by first | assumption | rfl | (exact Or.inl rfl) | (exact Or.inr rfl) | omega | (exact Nat.le_of_ble_eq_true rfl) | decide | (exact ⟨by decide, rfl, by decide⟩)) ?_
    refine sr_state hn hP (fun hv2 => absurd hv.1 hv2) (fun hv2 hw2 f2 hr => ?_) (fun _ hw2 => absurd hv.2 hw2)
    obtain ⟨⟨fs, qm, h0⟩, hfr⟩ := hr
    have hsc2 : f2 mi_SC = .inl (0, 6, .inl xs) := (hfr _ (by have := mp_scn; omega)).trans hsc
    have ho2 : f2 574 = .inl (3, 1, .inr (.inl g)) := (hfr _ (by omega)).trans ho
    refine b_204_966 _ _ _ (by first | assumption | rfl | (exact Or.inl rfl) | (exact Or.inr rfl) | omega | (exact Nat.le_of_ble_eq_true rfl) | decide | (exact ⟨by decide, rfl, by decide⟩)) (by first | assumption | rfl | (exact Or.inl rfl) | (exact Or.inr rfl) | omega | (exact Nat.le_of_ble_eq_true rfl) | decide | (exact ⟨by decide, rfl, by decide⟩)) ?_
    refine sr_thrown hn qm h0 ?_
    refine b_204_972 _ _ _ ?_ ?_
    · intro _
      refine b_204_979 _ _ _ ?_ ?_
      · intro z
        exact absurd rfl z
      · intro _
        refine b_204_984 _ _ _ _ _ _ (by first | assumption | rfl | (exact Or.inl rfl) | (exact Or.inr rfl) | omega | (exact Nat.le_of_ble_eq_true rfl) | decide | (exact ⟨by decide, rfl, by decide⟩)) (by first | assumption | rfl | (exact Or.inl rfl) | (exact Or.inr rfl) | omega | (exact Nat.le_of_ble_eq_true rfl) | decide | (exact ⟨by decide, rfl, by decide⟩)) (by first | assumption | rfl | (exact Or.inl rfl) | (exact Or.inr rfl) | omega | (exact Nat.le_of_ble_eq_true rfl) | decide | (exact ⟨by decide, rfl, by decide⟩)) ?_ ?_
        · intro _
          refine b_204_995 _ _ _ ?_
          exact mp_tail hsc2 k
        · intro z
          refine absurd ?_ z
          rw [show g (Int32.toNatClampNeg 0) = _ from hg]
          exact lg_eq _
    · intro z
      exact absurd rfl z
  · obtain ⟨n, sl, f⟩ := h'
    obtain ⟨hn, hP, hsc, g, ho, hg⟩ := mp_S_out hS
    have q505 : f 505 = .inr (12, mp_M) := (hP 505 (by omega) (by omega)).trans mp_q505
    refine b_204_942 _ _ _ _ _ _ _ _ _ _ _ _ (by first | assumption | rfl | (exact Or.inl rfl) | (exact Or.inr rfl) | omega | (exact Nat.le_of_ble_eq_true rfl) | decide | (exact ⟨by decide, rfl, by decide⟩)) (by first | assumption | rfl | (exact Or.inl rfl) | (exact Or.inr rfl) | omega | (exact Nat.le_of_ble_eq_true rfl) | decide | (exact ⟨by decide, rfl, by decide⟩)) (by first | assumption | rfl | (exact Or.inl rfl) | (exact Or.inr rfl) | omega | (exact Nat.le_of_ble_eq_true rfl) | decide | (exact ⟨by decide, rfl, by decide⟩)) (by first | assumption | rfl | (exact Or.inl rfl) | (exact Or.inr rfl) | omega | (exact Nat.le_of_ble_eq_true rfl) | decide | (exact ⟨by decide, rfl, by decide⟩)) (by first | assumption | rfl | (exact Or.inl rfl) | (exact Or.inr rfl) | omega | (exact Nat.le_of_ble_eq_true rfl) | decide | (exact ⟨by decide, rfl, by decide⟩)) (by first | assumption | rfl | (exact Or.inl rfl) | (exact Or.inr rfl) | omega | (exact Nat.le_of_ble_eq_true rfl) | decide | (exact ⟨by decide, rfl, by decide⟩)) (by first | assumption | rfl | (exact Or.inl rfl) | (exact Or.inr rfl) | omega | (exact Nat.le_of_ble_eq_true rfl) | decide | (exact ⟨by decide, rfl, by decide⟩)) (by first | assumption | rfl | (exact Or.inl rfl) | (exact Or.inr rfl) | omega | (exact Nat.le_of_ble_eq_true rfl) | decide | (exact ⟨by decide, rfl, by decide⟩)) (by first | assumption | rfl | (exact Or.inl rfl) | (exact Or.inr rfl) | omega | (exact Nat.le_of_ble_eq_true rfl) | decide | (exact ⟨by decide, rfl, by decide⟩)) (by first | assumption | rfl | (exact Or.inl rfl) | (exact Or.inr rfl) | omega | (exact Nat.le_of_ble_eq_true rfl) | decide | (exact ⟨by decide, rfl, by decide⟩)) (by first | assumption | rfl | (exact Or.inl rfl) | (exact Or.inr rfl) | omega | (exact Nat.le_of_ble_eq_true rfl) | decide | (exact ⟨by decide, rfl, by decide⟩)) ?_
    refine sr_state hn hP (fun hv2 => absurd hv.1 hv2) (fun _ hw2 => absurd hw2 hv.2) (fun hv2 hw2 f2 hr => ?_)
    obtain ⟨⟨fs, qm, h0⟩, hfr⟩ := hr
    have hsc2 : f2 mi_SC = .inl (0, 6, .inl xs) := (hfr _ (by have := mp_scn; omega)).trans hsc
    have ho2 : f2 574 = .inl (3, 1, .inr (.inl g)) := (hfr _ (by omega)).trans ho
    refine b_204_966 _ _ _ (by first | assumption | rfl | (exact Or.inl rfl) | (exact Or.inr rfl) | omega | (exact Nat.le_of_ble_eq_true rfl) | decide | (exact ⟨by decide, rfl, by decide⟩)) (by first | assumption | rfl | (exact Or.inl rfl) | (exact Or.inr rfl) | omega | (exact Nat.le_of_ble_eq_true rfl) | decide | (exact ⟨by decide, rfl, by decide⟩)) ?_
    refine sr_thrown hn qm h0 ?_
    refine b_204_972 _ _ _ ?_ ?_
    · intro _
      refine b_204_979 _ _ _ ?_ ?_
      · intro _
        refine b_204_995 _ _ _ ?_
        exact mp_tail hsc2 k
      · intro z
        exact absurd (by decide) z
    · intro z
      exact absurd rfl z
theorem ml_wrong  (hI : mp_I (.inl (0, 6, .inl xs)) n sl f) (k : ∀ h, Q (.inl (some (.int 1))) h) : mi_W (d + 4) 204 272 [some (.ref mi_SC), some (.ref 0), some (.ref 505), some (.ref 574), some (.int 0), o6, o7, o8] [] (n, sl, f) Q := by
  have hI0 := hI
  obtain ⟨⟨⟨hn, hn2, hs⟩, hP⟩, hsc, g0, ho⟩ := hI
  have q0 : f 0 = _ := (hP 0 (by omega)).trans mp_q0
  refine b_204_272 _ _ _ (by first | assumption | rfl | (exact Or.inl rfl) | (exact Or.inr rfl) | omega | (exact Nat.le_of_ble_eq_true rfl) | decide | (exact ⟨by decide, rfl, by decide⟩)) (by first | assumption | rfl | (exact Or.inl rfl) | (exact Or.inr rfl) | omega | (exact Nat.le_of_ble_eq_true rfl) | decide | (exact ⟨by decide, rfl, by decide⟩)) ?_
  refine sc_wrong hI0.1 ?_
  have q505 : f 505 = .inr (12, mp_M) := (hP 505 (by omega)).trans mp_q505
  refine b_204_276 _ _ _ (by first | assumption | rfl | (exact Or.inl rfl) | (exact Or.inr rfl) | omega | (exact Nat.le_of_ble_eq_true rfl) | decide | (exact ⟨by decide, rfl, by decide⟩)) (by first | assumption | rfl | (exact Or.inl rfl) | (exact Or.inr rfl) | omega | (exact Nat.le_of_ble_eq_true rfl) | decide | (exact ⟨by decide, rfl, by decide⟩)) ?_
  refine sr_wrong hn (fun q _ h => hP q h) (fun f2 hr => ?_)
  refine b_204_280 _ _ _ ?_ ?_
  · intro _
    exact mp_tail ((hr.2 _ (by have := mp_scn; omega)).trans hsc) k
  · intro z
    exact absurd rfl z
theorem ml_end (hl : ¬ xs (Int32.toNatClampNeg (0 + 1)) = 0) (hI : mp_I (.inl (0, 6, .inl xs)) n sl f) (k : ∀ h, Q (.inl (some (.int 1))) h) : mi_W (d + 4) 204 216 [some (.ref mi_SC), some (.ref 0), some (.ref 505), some (.ref 574), some (.int 0), o6, o7, o8] [] (n, sl, f) Q := by
  have hI0 := hI
  obtain ⟨⟨⟨hn, hn2, hs⟩, hP⟩, hsc, g0, ho⟩ := hI
  refine b_204_216 _ _ _ _ _ _ (by first | assumption | rfl | (exact Or.inl rfl) | (exact Or.inr rfl) | omega | (exact Nat.le_of_ble_eq_true rfl) | decide | (exact ⟨by decide, rfl, by decide⟩)) (by first | assumption | rfl | (exact Or.inl rfl) | (exact Or.inr rfl) | omega | (exact Nat.le_of_ble_eq_true rfl) | decide | (exact ⟨by decide, rfl, by decide⟩)) (by first | assumption | rfl | (exact Or.inl rfl) | (exact Or.inr rfl) | omega | (exact Nat.le_of_ble_eq_true rfl) | decide | (exact ⟨by decide, rfl, by decide⟩)) ?_
  refine sw_end hl hI0 (fun v h' hS => ?_)
  · obtain ⟨n, sl, f⟩ := h'
    obtain ⟨hn, hP, hsc, g, ho, hg⟩ := mp_S_out hS
    have q505 : f 505 = .inr (12, mp_M) := (hP 505 (by omega) (by omega)).trans mp_q505
    refine b_204_227 _ _ _ _ _ _ (by first | assumption | rfl | (exact Or.inl rfl) | (exact Or.inr rfl) | omega | (exact Nat.le_of_ble_eq_true rfl) | decide | (exact ⟨by decide, rfl, by decide⟩)) (by first | assumption | rfl | (exact Or.inl rfl) | (exact Or.inr rfl) | omega | (exact Nat.le_of_ble_eq_true rfl) | decide | (exact ⟨by decide, rfl, by decide⟩)) (by first | assumption | rfl | (exact Or.inl rfl) | (exact Or.inr rfl) | omega | (exact Nat.le_of_ble_eq_true rfl) | decide | (exact ⟨by decide, rfl, by decide⟩)) (by first | assumption | rfl | (exact Or.inl rfl) | (exact Or.inr rfl) | omega | (exact Nat.le_of_ble_eq_true rfl) | decide | (exact ⟨by decide, rfl, by decide⟩)) (by first | assumption | rfl | (exact Or.inl rfl) | (exact Or.inr rfl) | omega | (exact Nat.le_of_ble_eq_true rfl) | decide | (exact ⟨by decide, rfl, by decide⟩)) ?_
    refine sr_end hl hn hP (fun f2 hr => ?_)
    obtain ⟨⟨fs, qm, h0⟩, hfr⟩ := hr
    have hsc2 : f2 mi_SC = .inl (0, 6, .inl xs) := (hfr _ (by have := mp_scn; omega)).trans hsc
    have ho2 : f2 574 = .inl (3, 1, .inr (.inl g)) := (hfr _ (by omega)).trans ho
    refine b_204_239 _ _ _ (by first | assumption | rfl | (exact Or.inl rfl) | (exact Or.inr rfl) | omega | (exact Nat.le_of_ble_eq_true rfl) | decide | (exact ⟨by decide, rfl, by decide⟩)) (by first | assumption | rfl | (exact Or.inl rfl) | (exact Or.inr rfl) | omega | (exact Nat.le_of_ble_eq_true rfl) | decide | (exact ⟨by decide, rfl, by decide⟩)) ?_
    refine sr_thrown hn qm h0 ?_
    refine b_204_245 _ _ _ ?_ ?_
    · intro _
      refine b_204_252 _ _ _ ?_ ?_
      · intro _
        refine b_204_269 _ _ _ ?_
        exact mp_tail hsc2 k
      · intro z
        exact absurd (by decide) z
    · intro z
      exact absurd rfl z
end
theorem mp_e1 : mp_r1 = some (.inl none, (mp_hh mp_r1)) ∧ (mp_hh mp_r1) = (505, 29074, (mp_hh mp_r1).2.2) := mp_get mp_k1
theorem mp_e2 : mp_r2 = some (.inl none, (mp_hh mp_r2)) ∧ (mp_hh mp_r2) = (574, 101208, (mp_hh mp_r2).2.2) := mp_get mp_k2
theorem mp_e4' : mp_r4 = some (.inl (some (.int 2)), (mp_hh mp_r4)) ∧ (mp_hh mp_r4) = (576, 101215, (mp_hh mp_r4).2.2) := mp_get mp_k4
theorem mp_e5' : mp_r5 = some (.inl (some (.int 0)), (mp_hh mp_r5)) ∧ (mp_hh mp_r5) = (576, 101215, (mp_hh mp_r5).2.2) := mp_get mp_k5
theorem mp_fst {h : mi_H} {a b : Nat} (e : h = (a, b, h.2.2)) : h.1 = a := by
  obtain ⟨x, y, f⟩ := h
  simp only [Prod.mk.injEq] at e
  exact e.1
theorem mp_e4 : mp_r4 = some (.inl (some (.int 2)), (mp_hh mp_r4)) ∧ (mp_hh mp_r4).1 = 576 := ⟨mp_e4'.1, mp_fst mp_e4'.2⟩
theorem mp_e5 : mp_r5 = some (.inl (some (.int 0)), (mp_hh mp_r5)) ∧ (mp_hh mp_r5).1 = 576 := ⟨mp_e5'.1, mp_fst mp_e5'.2⟩
theorem mp_ov_at {c : mi_C} {f : Nat → mi_C} {p : Nat} {x : mi_C} (h : f p = x) (hp : p < 600) : va_up f mi_SC c p = x := by
  have := mp_scn
  simp only [va_up]
  rw [if_neg (by omega)]
  exact h
theorem mp_ov_sc {c : mi_C} {f : Nat → mi_C} : va_up f mi_SC c mi_SC = c := by simp [va_up]
theorem ml_end0 {xs : Nat → Int32} {o6 o7 o8 : Option Value} {Q : (Option Value ⊕ Nat) → mi_H → Prop} (hh : mi_hid mp_h3) (hl : xs (Int32.toNatClampNeg (0 + 1)) = 0) (k : ∀ h, Q (.inl (some (.int 1))) h) : mi_W 800 204 216 [some (.ref mi_SC), some (.ref 0), some (.ref 505), some (.ref 574), some (.int 0), o6, o7, o8] [] (mi_ov (.inl (0, 6, .inl xs)) mp_h3) Q := by
  have hsc : va_up mp_h3.2.2 mi_SC (.inl (0, 6, .inl xs)) mi_SC = .inl (0, 6, .inl xs) := mp_ov_sc
  have hn : 575 ≤ mp_h3.1 := Nat.le_refl _
  refine b_204_216 (d := 799) _ _ _ _ _ _ hsc (Or.inr rfl) ⟨by decide, rfl, by decide⟩ ?_
  rw [hl]
  refine mi_W.of_x (d := 780) (by decide) hh mp_e4.1 (fun hh4 => ?_)
  obtain ⟨fs4, hm4, -⟩ := mp_k4m
  have q505 := mp_ov_at (c := .inl (0, 6, .inl xs)) hm4 (by decide)
  have hsc : va_up (mp_hh mp_r4).2.2 mi_SC (.inl (0, 6, .inl xs)) mi_SC = .inl (0, 6, .inl xs) := mp_ov_sc
  refine b_204_227 (d := 799) _ _ _ _ _ _ hsc (Or.inr rfl) ⟨by decide, rfl, by decide⟩ q505 (by rw [mp_e4.2]; decide) ?_
  rw [hl]
  refine mi_W.of_x (d := 780) (by decide) hh4 mp_e5.1 (fun hh5 => ?_)
  obtain ⟨fs5, hm5, h05⟩ := mp_k5m
  have q505 := mp_ov_at (c := .inl (0, 6, .inl xs)) hm5 (by decide)
  have hsc : va_up (mp_hh mp_r5).2.2 mi_SC (.inl (0, 6, .inl xs)) mi_SC = .inl (0, 6, .inl xs) := mp_ov_sc
  refine b_204_239 (d := 799) _ _ _ q505 (by rw [mp_e5.2]; decide) ?_
  refine sr_thrown (by rw [mp_e5.2]; decide) q505 h05 ?_
  refine b_204_245 _ _ _ ?_ ?_
  · intro _
    refine b_204_252 _ _ _ ?_ ?_
    · intro _
      refine b_204_269 _ _ _ ?_
      exact mp_tail hsc k
    · intro z
      exact absurd (by decide) z
  · intro z
    exact absurd rfl z
theorem mp_and15 (x : Int32) : ∃ j : Nat, j < 16 ∧ x &&& 15 = Int32.ofNat j := by
  refine ⟨(x &&& 15).toBitVec.toNat, ?_, ?_⟩
  · rw [Int32.toBitVec_and, BitVec.toNat_and]
    exact Nat.lt_of_le_of_lt Nat.and_le_right (by decide)
  · apply Int32.toBitVec_inj.mp
    apply BitVec.eq_of_toNat_eq
    simp
theorem ml_one {xs : Nat → Int32} {o6 o7 o8 : Option Value} {Q : (Option Value ⊕ Nat) → mi_H → Prop} (hh : mi_hid mp_h3) (hI : mp_I (.inl (0, 6, .inl xs)) mp_h3.1 mp_h3.2.1 (va_up mp_h3.2.2 mi_SC (.inl (0, 6, .inl xs)))) (k : ∀ h, Q (.inl (some (.int 1))) h) : mi_W 800 204 33 [some (.ref mi_SC), some (.ref 0), some (.ref 505), some (.ref 574), some (.int 0), o6, o7, o8] [] (mi_ov (.inl (0, 6, .inl xs)) mp_h3) Q := by
  have hsc : va_up mp_h3.2.2 mi_SC (.inl (0, 6, .inl xs)) mi_SC = .inl (0, 6, .inl xs) := mp_ov_sc
  obtain ⟨j, hj, he⟩ := mp_and15 (xs 0)
  rcases (by omega : j = 0 ∨ j = 1 ∨ j = 2 ∨ j = 3 ∨ j = 4 ∨ j = 5 ∨ j = 6 ∨ j = 7 ∨ j = 8 ∨ j = 9 ∨ j = 10 ∨ j = 11 ∨ j = 12 ∨ j = 13 ∨ j = 14 ∨ j = 15) with rfl | rfl | rfl | rfl | rfl | rfl | rfl | rfl | rfl | rfl | rfl | rfl | rfl | rfl | rfl | rfl
  · refine b_204_33 (t13 := 112) _ _ _ _ _ _ hsc (Or.inr rfl) ⟨by decide, rfl, by decide⟩ (by rw [show xs (Int32.toNatClampNeg 0) &&& 15 = _ from he]; decide +kernel) ?_
    exact ml_feed hI k
  · refine b_204_33 (t13 := 216) _ _ _ _ _ _ hsc (Or.inr rfl) ⟨by decide, rfl, by decide⟩ (by rw [show xs (Int32.toNatClampNeg 0) &&& 15 = _ from he]; decide +kernel) ?_
    by_cases hl : xs (Int32.toNatClampNeg (0 + 1)) = 0
    · exact ml_end0 hh hl k
    · exact ml_end (d := 796) hl hI k
  · refine b_204_33 (t13 := 272) _ _ _ _ _ _ hsc (Or.inr rfl) ⟨by decide, rfl, by decide⟩ (by rw [show xs (Int32.toNatClampNeg 0) &&& 15 = _ from he]; decide +kernel) ?_
    exact ml_wrong hI k
  · refine b_204_33 (t13 := 285) _ _ _ _ _ _ hsc (Or.inr rfl) ⟨by decide, rfl, by decide⟩ (by rw [show xs (Int32.toNatClampNeg 0) &&& 15 = _ from he]; decide +kernel) ?_
    exact ml_wallet hI k
  · refine b_204_33 (t13 := 396) _ _ _ _ _ _ hsc (Or.inr rfl) ⟨by decide, rfl, by decide⟩ (by rw [show xs (Int32.toNatClampNeg 0) &&& 15 = _ from he]; decide +kernel) ?_
    exact ml_deposit hI k
  · refine b_204_33 (t13 := 520) _ _ _ _ _ _ hsc (Or.inr rfl) ⟨by decide, rfl, by decide⟩ (by rw [show xs (Int32.toNatClampNeg 0) &&& 15 = _ from he]; decide +kernel) ?_
    exact ml_choose hI k
  · refine b_204_33 (t13 := 620) _ _ _ _ _ _ hsc (Or.inr rfl) ⟨by decide, rfl, by decide⟩ (by rw [show xs (Int32.toNatClampNeg 0) &&& 15 = _ from he]; decide +kernel) ?_
    exact ml_remind hI k
  · refine b_204_33 (t13 := 664) _ _ _ _ _ _ hsc (Or.inr rfl) ⟨by decide, rfl, by decide⟩ (by rw [show xs (Int32.toNatClampNeg 0) &&& 15 = _ from he]; decide +kernel) ?_
    exact ml_apply hI k
  · refine b_204_33 (t13 := 796) _ _ _ _ _ _ hsc (Or.inr rfl) ⟨by decide, rfl, by decide⟩ (by rw [show xs (Int32.toNatClampNeg 0) &&& 15 = _ from he]; decide +kernel) ?_
    exact ml_told hI k
  · refine b_204_33 (t13 := 864) _ _ _ _ _ _ hsc (Or.inr rfl) ⟨by decide, rfl, by decide⟩ (by rw [show xs (Int32.toNatClampNeg 0) &&& 15 = _ from he]; decide +kernel) ?_
    exact ml_paid hI k
  · refine b_204_33 (t13 := 919) _ _ _ _ _ _ hsc (Or.inr rfl) ⟨by decide, rfl, by decide⟩ (by rw [show xs (Int32.toNatClampNeg 0) &&& 15 = _ from he]; decide +kernel) ?_
    exact ml_state hI k
  · refine b_204_33 (t13 := 998) _ _ _ _ _ _ hsc (Or.inr rfl) ⟨by decide, rfl, by decide⟩ (by rw [show xs (Int32.toNatClampNeg 0) &&& 15 = _ from he]; decide +kernel) ?_
    exact ml_analyse hI k
  · refine b_204_33 (t13 := 1042) _ _ _ _ _ _ hsc (Or.inr rfl) ⟨by decide, rfl, by decide⟩ (by rw [show xs (Int32.toNatClampNeg 0) &&& 15 = _ from he]; decide +kernel) ?_
    exact ml_step hI k
  · refine b_204_33 (t13 := 1109) _ _ _ _ _ _ hsc (Or.inr rfl) ⟨by decide, rfl, by decide⟩ (by rw [show xs (Int32.toNatClampNeg 0) &&& 15 = _ from he]; decide +kernel) ?_
    exact ml_count hI k
  · refine b_204_33 (t13 := 1165) _ _ _ _ _ _ hsc (Or.inr rfl) ⟨by decide, rfl, by decide⟩ (by rw [show xs (Int32.toNatClampNeg 0) &&& 15 = _ from he]; decide +kernel) ?_
    exact mp_tail hsc k
  · refine b_204_33 (t13 := 1165) _ _ _ _ _ _ hsc (Or.inr rfl) ⟨by decide, rfl, by decide⟩ (by rw [show xs (Int32.toNatClampNeg 0) &&& 15 = _ from he]; decide +kernel) ?_
    exact mp_tail hsc k
theorem mp_fo {L : Nat} {xs : Nat → Int32} : mi_fo L xs = va_up mp_f0 mi_SC (.inl (0, L, .inl xs)) := by
  funext q
  simp only [mp_f0, va_up]
  by_cases h : q = mi_SC
  · simp [h, mi_fo]
  · simp [h, mi_fo]
theorem mp_hid0 : mi_hid mp_h0 := by
  have e := mp_scn
  refine ⟨by show 1 ≤ mi_SC; omega, 0, ?_⟩
  show va_up (va_up (mi_fo 0 (fun _ => 0)) mi_SC (.inr (0, []))) 0 (.inr (0, mt_df 0)) mi_SC = _
  simp only [va_up]
  rw [if_neg (by omega), if_pos trivial]
theorem mp_main {L : Nat} {xs : Nat → Int32} (hL : L ≤ 6) : mi_W 800 204 0 (mi_en 8 [.ref mi_SC]) [] (0, 0, mi_fo L xs) (fun o _ => o = .inl (some (.int 1))) := by
  have esc := mp_scn
  refine b_204_0 (d := 799) _ _ _ (by decide) (by decide) ?_
  rw [show ((0 + 1, 0 + 10, va_up (mi_fo L xs) 0 (.inr (0, mt_df 0))) : mi_H) = mi_ov (.inl (0, L, .inl xs)) mp_h0 by
    rw [mp_fo]
    unfold mp_h0
    rw [mi_ov_up (by omega)]
    rfl]
  refine mi_W.of_x (d := 790) (by decide) mp_hid0 mp_e1.1 (fun hh1 => ?_)
  rw [mp_ovt mp_e1.2]
  refine b_204_7 (d := 799) _ _ _ (by decide) (by decide) ?_
  have hh1n : mi_hid mp_h1n := mi_hid_up (h := (mp_hh mp_r1)) hh1 (by show 505 + 1 ≤ mi_SC; omega) (by omega)
  rw [show ((505 + 1, 29074 + 88, va_up (va_up (mp_hh mp_r1).2.2 mi_SC (.inl (0, L, .inl xs))) 505 (.inr (12, mt_df 12))) : mi_H) = mi_ov (.inl (0, L, .inl xs)) mp_h1n by
    unfold mp_h1n
    rw [mi_ov_up (by omega)]]
  refine mi_W.of_x (d := 790) (by decide) hh1n mp_e2.1 (fun hh2 => ?_)
  rw [mp_ovt mp_e2.2]
  refine b_204_15 (d := 800) (m10 := 1) _ _ _ (by decide) (by decide) ?_
  have hh3 : mi_hid mp_h3 := mi_hid_up (h := (mp_hh mp_r2)) hh2 (by show 574 + 1 ≤ mi_SC; omega) (by omega)
  rw [show ((574 + 1, 101208 + 1, va_up (va_up (mp_hh mp_r2).2.2 mi_SC (.inl (0, L, .inl xs))) 574 (.inl (3, 1, .inr (.inl (fun _ => 0))))) : mi_H) = mi_ov (.inl (0, L, .inl xs)) mp_h3 by
    unfold mp_h3
    rw [mi_ov_up (by omega)]]
  have hsc : va_up mp_h3.2.2 mi_SC (.inl (0, L, .inl xs)) mi_SC = .inl (0, L, .inl xs) := mp_ov_sc
  by_cases h6 : L = 6
  · subst h6
    refine mp_head hsc (fun z => absurd z (by decide)) (fun _ => ?_)
    refine ml_one hh3 ⟨⟨⟨Nat.le_refl _, by decide, by decide⟩, fun q hq => ?_⟩, hsc, ⟨fun _ => 0, ?_⟩⟩ (fun h => rfl)
    · simp only [va_up]
      rw [if_neg (by omega)]
      unfold mp_h3
      simp only [va_up]
      rw [if_neg (by omega)]
    · unfold mp_h3
      simp only [va_up]
      rw [if_neg (by omega), if_pos trivial]
  · refine mp_head hsc (fun _ => ?_) (fun z => ?_)
    · refine b_204_1171 _ _ _ ?_
      rfl
    · refine absurd ?_ z
      rcases (by omega : L = 0 ∨ L = 1 ∨ L = 2 ∨ L = 3 ∨ L = 4 ∨ L = 5) with rfl | rfl | rfl | rfl | rfl | rfl <;> decide
