/-! the law whole -/
section
variable {d L r n sl i : Nat} {xs : Nat → Int32} {F : Nat → mi_C} {Q : (Option Value ⊕ Nat) → mi_H → Prop} {o6 o7 o8 : Option Value} {f : Nat → mi_C}
theorem mp_head {l5 : Int32} (hsc : f mi_SC = .inl (0, L, .inl xs)) (h12 : Int32.ofNat L - 6 < l5 → mi_W d 204 1171 [some (.ref mi_SC), some (.ref 0), some (.ref 505), some (.ref 574), some (.int l5), o6, o7, o8] [] (n, sl, f) Q) (h13 : ¬ (Int32.ofNat L - 6 < l5) → mi_W d 204 33 [some (.ref mi_SC), some (.ref 0), some (.ref 505), some (.ref 574), some (.int l5), o6, o7, o8] [] (n, sl, f) Q) : mi_W d 204 23 [some (.ref mi_SC), some (.ref 0), some (.ref 505), some (.ref 574), some (.int l5), o6, o7, o8] [] (n, sl, f) Q := by
  refine w_iload cd_204_23 rfl ?_
  refine w_aload_n cd_204_25 rfl ?_
  refine w_arraylengthS cd_204_26 hsc ?_
  refine w_bipush (v := 6) cd_204_27 (by decide) ?_
  refine w_isub cd_204_29 ?_
  exact w_if_icmpgt cd_204_30 (by decide) h12 h13
theorem mp_and15 (x : Int32) : ∃ j : Nat, j < 16 ∧ x &&& 15 = Int32.ofNat j := by
  refine ⟨(x &&& 15).toBitVec.toNat, ?_, ?_⟩
  · rw [Int32.toBitVec_and, BitVec.toNat_and]
    exact Nat.lt_of_le_of_lt Nat.and_le_right (by decide)
  · apply Int32.toBitVec_inj.mp
    apply BitVec.eq_of_toNat_eq
    simp
theorem mp_six (hL : L ≤ 3072) (hi : i ≤ 4000) : Int32.ofNat L - 6 < Int32.ofNat i ↔ L < i + 6 := by
  have e : (Int32.ofNat L - 6).toInt = (L : Int) - 6 := by
    rw [Int32.toInt_sub, Int32.toInt_ofNat_of_lt (by omega), show (6 : Int32).toInt = 6 from rfl]
    exact Int.bmod_eq_of_le (by omega) (by omega)
  rw [Int32.lt_iff_toInt_lt, e, Int32.toInt_ofNat_of_lt (by omega)]
  omega
theorem lS.sc (h : lS L xs r n sl F) : F mi_SC = .inl (0, L, .inl xs) := by
  obtain ⟨a, b, g, fd, oc, wr, w, many, ins, ev, re, con, rfl, hC, hG, hP, hO, hg⟩ := h
  exact lx_sc hg hG
theorem lS.up (h : lS L xs r n sl F) (hr : r + 1 ≤ 3072) : lS L xs (r + 1) n sl F := by
  obtain ⟨a, b, g, fd, oc, wr, w, many, ins, ev, re, con, rfl, hC, hG, hP, hO, hg⟩ := h
  exact ⟨a, b, g, fd, oc, wr, w, many, ins, ev, re, con, rfl, hC, hG.up (Nat.le_succ r) hr, hP, hO, hg⟩
theorem ml_one (hS : lS L xs r n sl F) (hr : r + 1 ≤ 3072) (hi : i + 5 < L) (hL : L ≤ 3072) (K : ∀ n' sl' F' o6 o7 o8, lS L xs (r + 1) n' sl' F' → mi_W (d + 600) 204 1165 [some (.ref mi_SC), some (.ref 0), some (.ref 505), some (.ref 574), some (.int (Int32.ofNat i)), o6, o7, o8] [] (n', sl', F') Q) : mi_W (d + 600) 204 33 [some (.ref mi_SC), some (.ref 0), some (.ref 505), some (.ref 574), some (.int (Int32.ofNat i)), o6, o7, o8] [] (n, sl, F) Q := by
  have hsc := hS.sc
  have hix := ix_of (w := i) (m := L) (by omega) (by omega)
  obtain ⟨j, hj, he⟩ := mp_and15 (xs i)
  rcases (by omega : j = 0 ∨ j = 1 ∨ j = 2 ∨ j = 3 ∨ j = 4 ∨ j = 5 ∨ j = 6 ∨ j = 7 ∨ j = 8 ∨ j = 9 ∨ j = 10 ∨ j = 11 ∨ j = 12 ∨ j = 13 ∨ j = 14 ∨ j = 15) with rfl | rfl | rfl | rfl | rfl | rfl | rfl | rfl | rfl | rfl | rfl | rfl | rfl | rfl | rfl | rfl
  · refine b_204_33 (t13 := 112) _ _ _ _ _ _ hsc (Or.inr rfl) hix (by rw [show xs i &&& 15 = _ from he]; decide +kernel) ?_
    exact ml_feed hS hr hi hL K
  · refine b_204_33 (t13 := 216) _ _ _ _ _ _ hsc (Or.inr rfl) hix (by rw [show xs i &&& 15 = _ from he]; decide +kernel) ?_
    exact ml_end hS hr hi hL K
  · refine b_204_33 (t13 := 272) _ _ _ _ _ _ hsc (Or.inr rfl) hix (by rw [show xs i &&& 15 = _ from he]; decide +kernel) ?_
    exact ml_wrong hS hr hi hL K
  · refine b_204_33 (t13 := 285) _ _ _ _ _ _ hsc (Or.inr rfl) hix (by rw [show xs i &&& 15 = _ from he]; decide +kernel) ?_
    exact ml_wallet hS hr hi hL K
  · refine b_204_33 (t13 := 396) _ _ _ _ _ _ hsc (Or.inr rfl) hix (by rw [show xs i &&& 15 = _ from he]; decide +kernel) ?_
    exact ml_deposit hS hr hi hL K
  · refine b_204_33 (t13 := 520) _ _ _ _ _ _ hsc (Or.inr rfl) hix (by rw [show xs i &&& 15 = _ from he]; decide +kernel) ?_
    exact ml_choose hS hr hi hL K
  · refine b_204_33 (t13 := 620) _ _ _ _ _ _ hsc (Or.inr rfl) hix (by rw [show xs i &&& 15 = _ from he]; decide +kernel) ?_
    exact ml_remind hS hr hi hL K
  · refine b_204_33 (t13 := 664) _ _ _ _ _ _ hsc (Or.inr rfl) hix (by rw [show xs i &&& 15 = _ from he]; decide +kernel) ?_
    exact ml_apply hS hr hi hL K
  · refine b_204_33 (t13 := 796) _ _ _ _ _ _ hsc (Or.inr rfl) hix (by rw [show xs i &&& 15 = _ from he]; decide +kernel) ?_
    exact ml_told hS hr hi hL K
  · refine b_204_33 (t13 := 864) _ _ _ _ _ _ hsc (Or.inr rfl) hix (by rw [show xs i &&& 15 = _ from he]; decide +kernel) ?_
    exact ml_paid hS hr hi hL K
  · refine b_204_33 (t13 := 919) _ _ _ _ _ _ hsc (Or.inr rfl) hix (by rw [show xs i &&& 15 = _ from he]; decide +kernel) ?_
    exact ml_state hS hr hi hL K
  · refine b_204_33 (t13 := 998) _ _ _ _ _ _ hsc (Or.inr rfl) hix (by rw [show xs i &&& 15 = _ from he]; decide +kernel) ?_
    exact ml_analyse hS hr hi hL K
  · refine b_204_33 (t13 := 1042) _ _ _ _ _ _ hsc (Or.inr rfl) hix (by rw [show xs i &&& 15 = _ from he]; decide +kernel) ?_
    exact ml_step hS hr hi hL K
  · refine b_204_33 (t13 := 1109) _ _ _ _ _ _ hsc (Or.inr rfl) hix (by rw [show xs i &&& 15 = _ from he]; decide +kernel) ?_
    exact ml_count hS hr hi hL K
  · refine b_204_33 (t13 := 1165) _ _ _ _ _ _ hsc (Or.inr rfl) hix (by rw [show xs i &&& 15 = _ from he]; decide +kernel) ?_
    exact K _ _ _ _ _ _ (hS.up hr)
  · refine b_204_33 (t13 := 1165) _ _ _ _ _ _ hsc (Or.inr rfl) hix (by rw [show xs i &&& 15 = _ from he]; decide +kernel) ?_
    exact K _ _ _ _ _ _ (hS.up hr)
theorem ml_loop (hL : L ≤ 3072) : ∀ (t i r n sl : Nat) (F : Nat → mi_C) (o6 o7 o8 : Option Value), L < i + 6 * t + 6 → i ≤ L → r ≤ i → lS L xs r n sl F → mi_W (d + 600) 204 23 [some (.ref mi_SC), some (.ref 0), some (.ref 505), some (.ref 574), some (.int (Int32.ofNat i)), o6, o7, o8] [] (n, sl, F) (fun o _ => o = .inl (some (.int 1))) := by
  intro t
  induction t with
  | zero =>
    intro i r n sl F o6 o7 o8 h1 h2 h3 hS
    refine mp_head hS.sc (fun _ => ?_) (fun z => ?_)
    · refine b_204_1171 _ _ _ ?_
      rfl
    · exact absurd ((mp_six hL (by omega)).mpr (by omega)) z
  | succ t ih =>
    intro i r n sl F o6 o7 o8 h1 h2 h3 hS
    refine mp_head hS.sc (fun _ => ?_) (fun z => ?_)
    · refine b_204_1171 _ _ _ ?_
      rfl
    · have hi : ¬ L < i + 6 := fun q => z ((mp_six hL (by omega)).mpr q)
      refine ml_one hS (by omega) (by omega) hL (fun n' sl' F' o6 o7 o8 hS' => ?_)
      refine b_204_1165 _ _ _ ?_
      rw [show Int32.ofNat i + 6 = Int32.ofNat (i + 6) from (Int32.ofNat_add i 6).symm]
      exact ih (i + 6) (r + 1) n' sl' F' o6 o7 o8 (by omega) (by omega) (by omega) hS'
end
theorem mp_fo {L : Nat} {xs : Nat → Int32} : mi_fo L xs = va_up mp_f0 mi_SC (.inl (0, L, .inl xs)) := by
  funext q
  simp only [mp_f0, va_up]
  by_cases h : q = mi_SC
  · simp [h, mi_fo]
  · simp [h, mi_fo]
theorem mp_hid0 : mi_hid mp_h0 := by
  have e := mp_scn
  refine ⟨by show 1 ≤ mi_SC; omega, 0, ?_⟩
  show va_up (va_up (mi_fo 0 (fun _ => 0)) mi_SC (.inr (0, []))) 0 (.inr (0, mt_df 0)) mi_SC = _
  simp only [va_up]
  rw [if_neg (by omega), if_pos trivial]
theorem mp_lS {L : Nat} {xs : Nat → Int32} : lS L xs 0 575 101209 (va_up (va_up mp_f1 574 (.inl (3, 1, .inr (.inl (fun _ => 0))))) mi_SC (.inl (0, L, .inl xs))) := by
  have esc := mp_scn
  have hF := fun {q : Nat} h1 h2 => mp_F (F := va_up (va_up mp_f1 574 (.inl (3, 1, .inr (.inl (fun _ => 0))))) mi_SC (.inl (0, L, .inl xs))) (c := .inl (0, L, .inl xs)) rfl (q := q) h1 h2
  refine ⟨mh_ab mp_f1, mg_ab mp_f1, _, 0, fun _ => 0, -1, fun _ => 0, 0, fun _ => (9, 0, 0, 0, 0), mv_z0 mx_S0 (fun _ => 0), (0, 0, []), none, (mp_start rfl).trans hc_hd, mp_cX, mp_gX, ⟨fun _ => ⟨(show (0 : Int) ≤ 0 by decide), (show (0 : Int) ≤ 4611686018427387904 by decide)⟩, fun _ q => by cases q⟩, fun _ => ⟨(show (-128 : Int) ≤ 0 by decide), (show (0 : Int) ≤ 127 by decide)⟩, ⟨⟨mp_gr mp_f1 61, (hF (by omega) (by omega)).trans mp_c10, fun i hi => mp_c11 hi⟩, ⟨Nat.zero_le _, fun c hc => ?_, 5, mp_gr mp_f1 508, by decide, by decide, (hF (by omega) (by omega)).trans mp_c12, fun j hj => mp_c13 hj⟩, ⟨_, (va_ne (by omega)).trans va_eq⟩, va_eq⟩⟩
  obtain ⟨fs, e⟩ := mp_c14 hc
  exact ⟨fs, (hF (by omega) (by omega)).trans e⟩
theorem mp_main {L : Nat} {xs : Nat → Int32} (hL : L ≤ 3072) : mi_W 800 204 0 (mi_en 8 [.ref mi_SC]) [] (0, 0, mi_fo L xs) (fun o _ => o = .inl (some (.int 1))) := by
  have esc := mp_scn
  refine b_204_0 (d := 799) _ _ _ (by decide) (by decide) ?_
  rw [show ((0 + 1, 0 + 10, va_up (mi_fo L xs) 0 (.inr (0, mt_df 0))) : mi_H) = mi_ov (.inl (0, L, .inl xs)) mp_h0 by
    rw [mp_fo]
    unfold mp_h0
    rw [mi_ov_up (by omega)]
    rfl]
  refine mi_W.of_x (d := 790) (by decide) mp_hid0 mp_e1.1 (fun hh1 => ?_)
  rw [mp_ovt mp_e1.2]
  refine b_204_7 (d := 799) _ _ _ (by decide) (by decide) ?_
  have hh1n : mi_hid mp_h1n := mi_hid_up (h := mp_hh mp_r1) hh1 (by show 505 + 1 ≤ mi_SC; omega) (by omega)
  rw [show ((505 + 1, 29074 + 88, va_up (va_up (mp_hh mp_r1).2.2 mi_SC (.inl (0, L, .inl xs))) 505 (.inr (12, mt_df 12))) : mi_H) = mi_ov (.inl (0, L, .inl xs)) mp_h1n by
    unfold mp_h1n
    rw [mi_ov_up (by omega)]]
  refine mi_W.of_x (d := 790) (by decide) hh1n mp_e2.1 (fun hh2 => ?_)
  rw [mp_ovt mp_e2.2]
  refine b_204_15 (d := 800) (m10 := 1) _ _ _ (by decide) (by decide) ?_
  have e2 : va_up (va_up (mp_hh mp_r2).2.2 mi_SC (.inl (0, L, .inl xs))) 574 (.inl (3, 1, .inr (.inl (fun _ => 0)))) = va_up (va_up mp_f1 574 (.inl (3, 1, .inr (.inl (fun _ => 0))))) mi_SC (.inl (0, L, .inl xs)) := mi_up_comm _ (by omega) _ _
  rw [e2]
  exact ml_loop (d := 200) hL 512 0 0 575 101209 _ _ _ _ (by omega) (Nat.zero_le _) (Nat.le_refl _) mp_lS
theorem mi_goal : mi_Goal := fun L xs hL => by
  obtain ⟨n, o, h', h1, h2⟩ := mp_main (xs := xs) hL
  subst h2
  exact ⟨n, h', h1⟩
theorem i_vc : Claimed_1_1 ∧ Claimed_1_2 := i_vc_of mi_goal
