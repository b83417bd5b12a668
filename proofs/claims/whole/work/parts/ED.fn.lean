/-! the second object: settle -/
def gPs (b : mg_A) (np : Nat) (ps : Nat → Nat × Nat × Nat × Int64) : Prop := b.I 505 48 = Int32.ofNat np ∧ np ≤ 148 ∧ ∀ i, i < np → b.I 546 i = Int32.ofNat (ps i).2.1 ∧ b.I 547 i = Int32.ofNat (ps i).2.2.1 ∧ b.J 548 i = (ps i).2.2.2 ∧ (ps i).2.1 < 8 ∧ (ps i).2.2.1 < 4 ∧ 0 < (ps i).2.2.2.toInt ∧ (ps i).2.2.2.toInt ≤ 4611686018427387904
section
variable {d n sl : Nat} {b : mg_A} {f0 : Nat → mi_C} {Q : (Option Value ⊕ Nat) → mi_H → Prop} {c np : Nat} {ps : Nat → Nat × Nat × Nat × Int64} {l2 : Int32} {w' lf : Nat → Int64}
theorem g_sb (hn : 575 ≤ n) (hp : gPs b np ps) (hc : c < 32) (K6 : Q (.inl (some (.int 6))) (n, sl, hd b f0)) : ∀ (t j : Nat) (v : Int64), j + t = np → 4611686018427387904 < v.toInt → mi_W d 185 32 [some (.ref 505), some (.int l2), some (.int (Int32.ofNat c)), some (.long v), none, some (.int (Int32.ofNat j))] [] (n, sl, hd b f0) Q := by
  have hnp := hp.1
  have hn8 := hp.2.1
  intro t
  induction t with
  | zero =>
    intro j v hj hv
    refine b_185_32 _ _ _ (by first | (exact hd_9) | assumption) (by omega) (by exact mL_get (by decide)) ?_ ?_
    · intro z32
      refine b_185_90 _ _ _ ?_ ?_
      · intro z90
        exact absurd (Int64.le_iff_toInt_le.mp (lg_le.mp z90)) (by show ¬ _ ≤ (4611686018427387904 : Int); omega)
      · intro z90
        refine b_185_98 _ _ _ ?_
        exact K6
    · intro z32
      exact absurd ((i_le hnp rfl (by omega) (by omega)).mpr (by omega)) z32
  | succ t ih =>
    intro j v hj hv
    obtain ⟨q1, q2, q3, q4, q5, q6, q7⟩ := hp.2.2 j (by omega)
    have hix := ix_of (w := j) (m := 2000) (by omega) (by omega)
    refine b_185_32 _ _ _ (by first | (exact hd_9) | assumption) (by omega) (by exact mL_get (by decide)) ?_ ?_
    · intro z32
      exact absurd ((i_le hnp rfl (by omega) (by omega)).mp z32) (by omega)
    · intro z32
      refine b_185_41 _ _ _ _ _ _ _ _ _ (by first | (exact hd_9) | assumption) (by omega) (by exact mL_get (by decide)) (by first | (exact hd_I (by omega) rfl) | assumption) (Or.inl (by omega)) (by first | assumption | (exact ix_of (by omega) (by omega)) | (exact ⟨by decide, rfl, by decide⟩)) (by first | (exact hd_9) | assumption) (by omega) (by exact mL_get (by decide)) (by first | (exact hd_I (by omega) rfl) | assumption) (Or.inl (by omega)) (by first | assumption | (exact ix_of (by omega) (by omega)) | (exact ⟨by decide, rfl, by decide⟩)) ?_ ?_
      · intro z41
        refine b_185_65 _ _ _ _ _ _ (by first | (exact hd_9) | assumption) (by omega) (by exact mL_get (by decide)) (by first | (exact hd_J (by omega) rfl) | (exact hd_L1 (by assumption)) | (exact hd_L2 (by assumption)) | (exact hd_L3 (by assumption)) | assumption) (by omega) (by first | assumption | (exact ix_of (by omega) (by omega)) | (exact ⟨by decide, rfl, by decide⟩)) ?_ ?_
        · intro z65
          rw [q3] at z65 ⊢
          have h0 := Int64.le_iff_toInt_le.mp (Int64.not_lt.mp (lg_ge.mp z65))
          have hs : 4611686018427387904 < (v + (ps j).2.2.2).toInt := by
            have hz : (0 : Int64).toInt = 0 := rfl
            by_cases hh : v.toInt + (ps j).2.2.2.toInt < 9223372036854775808
            · rw [mv_add_i (by omega) q6 q7 hh]
              omega
            · have := mv_add_n (by omega) q6 q7 hh
              omega
          refine b_185_84 _ _ _ ?_
          rw [of_succ]
          first | exact ih (j + 1) _ (by omega) hs | exact ih (j + 1) _ (by omega) hv
        · intro z65
          refine b_185_81 _ _ _ ?_
          exact K6
      · intro z41
        refine b_185_62 _ _ _ ?_
        refine b_185_84 _ _ _ ?_
        rw [of_succ]
        first | exact ih (j + 1) _ (by omega) hs | exact ih (j + 1) _ (by omega) hv
theorem g_sc (hn : 575 ≤ n) (hp : gPs b np ps) (hc : c < 32) : ∀ (t j : Nat) (v : Int64), j + t = np → 0 ≤ v.toInt → v.toInt ≤ 4611686018427387904 → (mv_ce ps c t j v = none → Q (.inl (some (.int 6))) (n, sl, hd b f0)) → (∀ v', mv_ce ps c t j v = some v' → v'.toInt ≤ 4611686018427387904 → mi_W d 185 90 [some (.ref 505), some (.int l2), some (.int (Int32.ofNat c)), some (.long v'), none, some (.int (Int32.ofNat np))] [] (n, sl, hd b f0) Q) → mi_W d 185 32 [some (.ref 505), some (.int l2), some (.int (Int32.ofNat c)), some (.long v), none, some (.int (Int32.ofNat j))] [] (n, sl, hd b f0) Q := by
  have hnp := hp.1
  have hn8 := hp.2.1
  intro t
  induction t with
  | zero =>
    intro j v hj h0 hv K6 K
    have hjn : j = np := by omega
    subst hjn
    refine b_185_32 _ _ _ (by first | (exact hd_9) | assumption) (by omega) (by exact mL_get (by decide)) ?_ ?_
    · intro z32
      exact K v rfl hv
    · intro z32
      exact absurd ((i_le hnp rfl (by omega) (by omega)).mpr (by omega)) z32
  | succ t ih =>
    intro j v hj h0 hv K6 K
    obtain ⟨q1, q2, q3, q4, q5, q6, q7⟩ := hp.2.2 j (by omega)
    have hix := ix_of (w := j) (m := 2000) (by omega) (by omega)
    have e2 : mv_ce ps c (t + 1) j v = if (ps j).2.1 * 4 + (ps j).2.2.1 = c then (if 4611686018427387904 - (ps j).2.2.2 < v then none else mv_ce ps c t (j + 1) (v + (ps j).2.2.2)) else mv_ce ps c t (j + 1) v := rfl
    rw [e2] at K6 K
    have e4 := g_ix4 q1 q2
    have hz : (0 : Int64).toInt = 0 := rfl
    by_cases hcc : (ps j).2.1 * 4 + (ps j).2.2.1 = c
    · rw [if_pos hcc] at K6 K
      by_cases hl : 4611686018427387904 - (ps j).2.2.2 < v
      · rw [if_pos hl] at K6
        have hl' := (mv_lim_i q6 q7).mp hl
        refine b_185_32 _ _ _ (by first | (exact hd_9) | assumption) (by omega) (by exact mL_get (by decide)) ?_ ?_
        · intro z32
          exact absurd ((i_le hnp rfl (by omega) (by omega)).mp z32) (by omega)
        · intro z32
          refine b_185_41 _ _ _ _ _ _ _ _ _ (by first | (exact hd_9) | assumption) (by omega) (by exact mL_get (by decide)) (by first | (exact hd_I (by omega) rfl) | assumption) (Or.inl (by omega)) (by first | assumption | (exact ix_of (by omega) (by omega)) | (exact ⟨by decide, rfl, by decide⟩)) (by first | (exact hd_9) | assumption) (by omega) (by exact mL_get (by decide)) (by first | (exact hd_I (by omega) rfl) | assumption) (Or.inl (by omega)) (by first | assumption | (exact ix_of (by omega) (by omega)) | (exact ⟨by decide, rfl, by decide⟩)) ?_ ?_
          · intro z41
            refine b_185_65 _ _ _ _ _ _ (by first | (exact hd_9) | assumption) (by omega) (by exact mL_get (by decide)) (by first | (exact hd_J (by omega) rfl) | (exact hd_L1 (by assumption)) | (exact hd_L2 (by assumption)) | (exact hd_L3 (by assumption)) | assumption) (by omega) (by first | assumption | (exact ix_of (by omega) (by omega)) | (exact ⟨by decide, rfl, by decide⟩)) ?_ ?_
            · intro z65
              rw [q3] at z65 ⊢
              have h1 := Int64.le_iff_toInt_le.mp (Int64.not_lt.mp (lg_ge.mp z65))
              have hs : 4611686018427387904 < (v + (ps j).2.2.2).toInt := by
                by_cases hh : v.toInt + (ps j).2.2.2.toInt < 9223372036854775808
                · rw [mv_add_i (by omega) q6 q7 hh]
                  omega
                · have := mv_add_n (by omega) q6 q7 hh
                  omega
              refine b_185_84 _ _ _ ?_
              rw [of_succ]
              exact g_sb hn hp hc (K6 rfl) t (j + 1) _ (by omega) hs
            · intro z65
              refine b_185_81 _ _ _ ?_
              exact K6 rfl
          · intro z41
            exact absurd (by rw [e4, hcc]) z41
      · rw [if_neg hl] at K6 K
        rw [mv_lim_i q6 q7] at hl
        have hs : (v + (ps j).2.2.2).toInt = v.toInt + (ps j).2.2.2.toInt := mv_add_i h0 q6 q7 (by omega)
        refine b_185_32 _ _ _ (by first | (exact hd_9) | assumption) (by omega) (by exact mL_get (by decide)) ?_ ?_
        · intro z32
          exact absurd ((i_le hnp rfl (by omega) (by omega)).mp z32) (by omega)
        · intro z32
          refine b_185_41 _ _ _ _ _ _ _ _ _ (by first | (exact hd_9) | assumption) (by omega) (by exact mL_get (by decide)) (by first | (exact hd_I (by omega) rfl) | assumption) (Or.inl (by omega)) (by first | assumption | (exact ix_of (by omega) (by omega)) | (exact ⟨by decide, rfl, by decide⟩)) (by first | (exact hd_9) | assumption) (by omega) (by exact mL_get (by decide)) (by first | (exact hd_I (by omega) rfl) | assumption) (Or.inl (by omega)) (by first | assumption | (exact ix_of (by omega) (by omega)) | (exact ⟨by decide, rfl, by decide⟩)) ?_ ?_
          · intro z41
            refine b_185_65 _ _ _ _ _ _ (by first | (exact hd_9) | assumption) (by omega) (by exact mL_get (by decide)) (by first | (exact hd_J (by omega) rfl) | (exact hd_L1 (by assumption)) | (exact hd_L2 (by assumption)) | (exact hd_L3 (by assumption)) | assumption) (by omega) (by first | assumption | (exact ix_of (by omega) (by omega)) | (exact ⟨by decide, rfl, by decide⟩)) ?_ ?_
            · intro z65
              rw [q3] at z65 ⊢
              refine b_185_84 _ _ _ ?_
              rw [of_succ]
              exact ih (j + 1) _ (by omega) (by rw [hs]; omega) (by rw [hs]; omega) K6 K
            · intro z65
              exact absurd (lg_ge.mpr (Int64.not_lt.mpr (Int64.le_iff_toInt_le.mpr (by rw [q3, hs, hz]; omega)))) z65
          · intro z41
            exact absurd (by rw [e4, hcc]) z41
    · rw [if_neg hcc] at K6 K
      refine b_185_32 _ _ _ (by first | (exact hd_9) | assumption) (by omega) (by exact mL_get (by decide)) ?_ ?_
      · intro z32
        exact absurd ((i_le hnp rfl (by omega) (by omega)).mp z32) (by omega)
      · intro z32
        refine b_185_41 _ _ _ _ _ _ _ _ _ (by first | (exact hd_9) | assumption) (by omega) (by exact mL_get (by decide)) (by first | (exact hd_I (by omega) rfl) | assumption) (Or.inl (by omega)) (by first | assumption | (exact ix_of (by omega) (by omega)) | (exact ⟨by decide, rfl, by decide⟩)) (by first | (exact hd_9) | assumption) (by omega) (by exact mL_get (by decide)) (by first | (exact hd_I (by omega) rfl) | assumption) (Or.inl (by omega)) (by first | assumption | (exact ix_of (by omega) (by omega)) | (exact ⟨by decide, rfl, by decide⟩)) ?_ ?_
        · intro z41
          exact absurd ((of_eq (by omega) (by omega)).mp (e4.symm.trans z41)) hcc
        · intro z41
          refine b_185_62 _ _ _ ?_
          refine b_185_84 _ _ _ ?_
          rw [of_succ]
          exact ih (j + 1) _ (by omega) h0 hv K6 K
theorem g_r0 (hn : 575 ≤ n) (hp : gPs b np ps) (hlf : ∀ j, j < 32 → b.J 550 j - b.J 549 j = lf j) (hwk : mv_wk lf) (K6 : ∀ c, c < 32 → mv_ce ps c np 0 (lf c) = none → Q (.inl (some (.int 6))) (n, sl, hd b f0)) : ∀ (t c : Nat) (o4 o5 o6 : Option Value), c + t = 32 → ((∀ c', c ≤ c' → c' < 32 → ∃ v', mv_ce ps c' np 0 (lf c') = some v') → ∀ o4 o5 o6, mi_W d 185 2 [some (.ref 505), some (.int 1), some (.int 32), o4, o5, o6] [] (n, sl, hd b f0) Q) → mi_W d 185 9 [some (.ref 505), some (.int 0), some (.int (Int32.ofNat c)), o4, o5, o6] [] (n, sl, hd b f0) Q := by
  intro t
  induction t with
  | zero =>
    intro c o4 o5 o6 hc K
    have hc32 : c = 32 := by omega
    subst hc32
    refine b_185_9 _ _ _ ?_ ?_
    · intro z9
      refine b_185_119 _ _ _ ?_
      exact K (fun c' h1 h2 => by omega) _ _ _
    · intro z9
      exact absurd (by decide) z9
  | succ t ih =>
    intro c o4 o5 o6 hc K
    have hix := ix_of (w := c) (m := 32) (by omega) (by omega)
    have hb := hwk c
    refine b_185_9 _ _ _ ?_ ?_
    · intro z9
      exact absurd ((i_le (a := 32) rfl rfl (by omega) (by omega)).mp z9) (by omega)
    · intro z9
      refine b_185_15 _ _ _ _ _ _ _ _ _ (by first | (exact hd_9) | assumption) (by omega) (by exact mL_get (by decide)) (by first | (exact hd_J (by omega) rfl) | (exact hd_L1 (by assumption)) | (exact hd_L2 (by assumption)) | (exact hd_L3 (by assumption)) | assumption) (by omega) (by first | assumption | (exact ix_of (by omega) (by omega)) | (exact ⟨by decide, rfl, by decide⟩)) (by first | (exact hd_9) | assumption) (by omega) (by exact mL_get (by decide)) (by first | (exact hd_J (by omega) rfl) | (exact hd_L1 (by assumption)) | (exact hd_L2 (by assumption)) | (exact hd_L3 (by assumption)) | assumption) (by omega) (by first | assumption | (exact ix_of (by omega) (by omega)) | (exact ⟨by decide, rfl, by decide⟩)) ?_
      rw [hlf c (by omega)]
      refine g_sc hn hp (by omega) np 0 (lf c) (by omega) hb.1 hb.2 (K6 c (by omega)) (fun v' hv' hv2 => ?_)
      refine b_185_90 _ _ _ ?_ ?_
      · intro z90
        refine b_185_101 _ _ _ ?_ ?_
        · intro z101
          refine b_185_113 _ _ _ ?_
          rw [of_succ]
          refine ih (c + 1) _ _ _ (by omega) (fun h => K (fun c' h1 h2 => ?_))
          by_cases e : c' = c
          · rw [e]
            exact ⟨v', hv'⟩
          · exact h c' (by omega) h2
        · intro z101
          exact absurd (Classical.not_not.mp z101) (by decide)
      · intro z90
        exact absurd (lg_le.mpr (Int64.le_iff_toInt_le.mpr hv2)) z90
theorem g_r1 (hn : 575 ≤ n) (hp : gPs b np ps) (hlf : ∀ j, j < 32 → b.J 550 j - b.J 549 j = lf j) (hwk : mv_wk lf) (hce : ∀ c, c < 32 → mv_ce ps c np 0 (lf c) = some (w' c)) (K : ∀ g, (∀ j, j < 32 → g j = w' j) → Q (.inl (some (.int 0))) (n, sl, hd (b.sJ 550 g) f0)) : ∀ (t c : Nat) (g : Nat → Int64) (o4 o5 o6 : Option Value), c + t = 32 → (∀ j, j < c → g j = w' j) → (∀ j, c ≤ j → j < 32 → g j = b.J 550 j) → mi_W d 185 9 [some (.ref 505), some (.int 1), some (.int (Int32.ofNat c)), o4, o5, o6] [] (n, sl, hd (b.sJ 550 g) f0) Q := by
  intro t
  induction t with
  | zero =>
    intro c g o4 o5 o6 hc h1 h2
    refine b_185_9 _ _ _ ?_ ?_
    · intro z9
      refine b_185_119 _ _ _ ?_
      refine b_185_2 _ _ _ ?_ ?_
      · intro z2
        refine b_185_125 _ _ _ ?_
        exact K g (fun j hj => h1 j (by omega))
      · intro z2
        exact absurd (by decide) z2
    · intro z9
      exact absurd ((i_le (a := 32) rfl rfl (by omega) (by omega)).mpr (by omega)) z9
  | succ t ih =>
    intro c g o4 o5 o6 hc h1 h2
    have hix := ix_of (w := c) (m := 32) (by omega) (by omega)
    have hb := hwk c
    have hl : (b.sJ 550 g).J 550 c - (b.sJ 550 g).J 549 c = lf c := by
      rw [← hlf c (by omega), J_at, h2 c (Nat.le_refl _) (by omega)]
      rfl
    refine b_185_9 _ _ _ ?_ ?_
    · intro z9
      exact absurd ((i_le (a := 32) rfl rfl (by omega) (by omega)).mp z9) (by omega)
    · intro z9
      refine b_185_15 _ _ _ _ _ _ _ _ _ (by first | (exact hd_9) | assumption) (by omega) (by exact mL_get (by decide)) (by first | (exact hd_J (by omega) rfl) | (exact hd_L1 (by assumption)) | (exact hd_L2 (by assumption)) | (exact hd_L3 (by assumption)) | assumption) (by omega) (by first | assumption | (exact ix_of (by omega) (by omega)) | (exact ⟨by decide, rfl, by decide⟩)) (by first | (exact hd_9) | assumption) (by omega) (by exact mL_get (by decide)) (by first | (exact hd_J (by omega) rfl) | (exact hd_L1 (by assumption)) | (exact hd_L2 (by assumption)) | (exact hd_L3 (by assumption)) | assumption) (by omega) (by first | assumption | (exact ix_of (by omega) (by omega)) | (exact ⟨by decide, rfl, by decide⟩)) ?_
      rw [hl]
      refine g_sc (b := b.sJ 550 g) hn hp (by omega) np 0 (lf c) (by omega) hb.1 hb.2 (fun h => by rw [hce c (by omega)] at h; cases h) (fun v' hv' hv2 => ?_)
      rw [hce c (by omega)] at hv'
      injection hv' with hv'
      subst hv'
      refine b_185_90 _ _ _ ?_ ?_
      · intro z90
        refine b_185_101 _ _ _ ?_ ?_
        · intro z101
          exact absurd rfl z101
        · intro z101
          refine b_185_106 _ _ _ _ _ _ (by first | (exact hd_9) | assumption) (by omega) (by exact mL_get (by decide)) (by first | (exact hd_J (by omega) rfl) | (exact hd_L1 (by assumption)) | (exact hd_L2 (by assumption)) | (exact hd_L3 (by assumption)) | assumption) (by omega) (by first | assumption | (exact ix_of (by omega) (by omega)) | (exact ⟨by decide, rfl, by decide⟩)) ?_
          refine hw_W ((by first | exact gw_J (by omega) rfl | exact gw_L1 (by assumption) | exact gw_L2 (by assumption) | exact gw_L3 (by assumption))) ?_
          rw [J_at, sJ2]
          refine b_185_113 _ _ _ ?_
          rw [of_succ]
          refine ih (c + 1) _ _ _ _ (by omega) (fun j hj => ?_) (fun j hj1 hj2 => ?_)
          · by_cases e : j = c
            · rw [e, upL_at]
            · rw [upL_ne e]
              exact h1 j (by omega)
          · rw [upL_ne (by omega)]
            exact h2 j (by omega) hj2
      · intro z90
        exact absurd (lg_le.mpr (Int64.le_iff_toInt_le.mpr hv2)) z90
theorem g_settle (hn : 575 ≤ n) (hp : gPs b np ps) (hlf : ∀ j, j < 32 → b.J 550 j - b.J 549 j = lf j) (hwk : mv_wk lf) (K6 : mv_set ps np 0 lf = none → Q (.inl (some (.int 6))) (n, sl, hd b f0)) (K : ∀ g w', mv_set ps np 0 lf = some w' → (∀ j, j < 32 → g j = w' j) → Q (.inl (some (.int 0))) (n, sl, hd (b.sJ 550 g) f0)) : mi_W d 185 0 (mi_en 6 [.ref 505]) [] (n, sl, hd b f0) Q := by
  have hse := mv_set_ce (ps := ps) np 0 lf
  have hz : ∀ c, c < 32 → mv_ce ps c np 0 (lf c) = none → mv_set ps np 0 lf = none := by
    intro c hc h
    cases hs : mv_set ps np 0 lf with
    | none => rfl
    | some w' =>
      rw [hse.1 w' hs c] at h
      cases h
  refine b_185_0 _ _ _ ?_
  refine b_185_2 _ _ _ ?_ ?_
  · intro z2
    first | (exact absurd z2 (by decide)) | (exact absurd (by decide) z2) | (exact absurd rfl z2) | (exact absurd z2 (of_nn (by omega))) | (exact absurd (of_np (by omega)) z2) | omega
  · intro z2
    refine b_185_7 _ _ _ ?_
    refine g_r0 hn hp hlf hwk (fun c hc h => K6 (hz c hc h)) 32 0 _ _ _ rfl (fun hall o4 o5 o6 => ?_)
    cases hs : mv_set ps np 0 lf with
    | none =>
      obtain ⟨i, -, hi, hx⟩ := hse.2 hs
      obtain ⟨q1, q2, q3, q4, q5, q6, q7⟩ := hp.2.2 i (by omega)
      obtain ⟨v', hv'⟩ := hall _ (Nat.zero_le _) (show (ps i).2.1 * 4 + (ps i).2.2.1 < 32 by omega)
      rw [hx] at hv'
      cases hv'
    | some w' =>
      refine b_185_2 _ _ _ ?_ ?_
      · intro z2
        exact absurd z2 (by decide)
      · intro z2
        refine b_185_7 _ _ _ ?_
        rw [← sJ_self (b := b) (q := 550)]
        exact g_r1 hn hp hlf hwk (fun c _ => hse.1 w' hs c) (fun g hg => K g w' hs hg) 32 0 _ _ _ _ rfl (fun j hj => absurd hj (Nat.not_lt_zero j)) (fun j _ _ => rfl)
end
