/-! the second object: what reckoning looks at; fit and two -/
def mg_S (b : mg_A) (p : Nat) (S : mv_S) : Prop := mg_o b.D p ∧ (b.P 0 p 0 = Int32.ofNat S.at ∧ S.at ≤ 800) ∧ b.L 0 p 0 = S.tm ∧ (∀ j, j < 32 → b.L 1 p j = S.ac j) ∧ (∀ j, j < 8 → (b.P 4 p j = 0 ∨ b.P 4 p j = 1) ∧ S.ch j = if b.P 4 p j = 0 then none else some (b.L 2 p j)) ∧ (∀ j, j < 8 → (b.P 5 p j = 0 ∨ b.P 5 p j = 1) ∧ S.us j = if b.P 5 p j = 0 then none else some (b.L 3 p j))
def gRow (b : mg_A) (c : ms_N) (m : Nat) : Prop := b.I 509 m = Int32.ofNat c.1 ∧ (mz_t 0 c.1 = true → b.I 510 m = Int32.ofNat c.2.1) ∧ (mz_t 1 c.1 = true → b.I 511 m = Int32.ofNat c.2.2.1) ∧ (mz_t 2 c.1 = true → b.I 512 m = Int32.ofNat c.2.2.2.1) ∧ (mz_t 3 c.1 = true → b.J 517 m = c.2.2.2.2.1) ∧ (mz_t 4 c.1 = true → b.I 513 m = Int32.ofNat c.2.2.2.2.2.1) ∧ (mz_t 5 c.1 = true → b.I 510 m = Int32.ofNat c.2.2.2.2.2.1) ∧ (mz_t 6 c.1 = true → b.I 514 m = mz_lk c.2.2.2.2.2.1) ∧ (mz_t 7 c.1 = true → b.I 516 m = Int32.ofNat c.2.2.2.2.2.2.1) ∧ (mz_t 8 c.1 = true → b.I 510 m = Int32.ofNat c.2.2.2.2.2.2.1) ∧ (mz_t 9 c.1 = true → b.I 511 m = Int32.ofNat c.2.2.2.2.2.2.1) ∧ (mz_t 10 c.1 = true → b.I 511 m = Int32.ofNat c.2.2.2.2.2.2.2.1) ∧ (mz_t 11 c.1 = true → b.I 529 m = mz_lk c.2.2.2.2.2.2.2.1) ∧ (mz_t 12 c.1 = true → b.I 515 m = Int32.ofNat c.2.2.2.2.2.2.2.2.1) ∧ (mz_t 13 c.1 = true → b.I 530 m = Int32.ofNat c.2.2.2.2.2.2.2.2.2)
/-- LARGE is told by a flag -/
def gvL (b : mg_A) (l : Bool) : mg_A := b.sX 46 (cfl l)
section
variable {d n sl : Nat} {b : mg_A} {f0 : Nat → mi_C} {Q : (Option Value ⊕ Nat) → mi_H → Prop} {u v w : Int64} {l : Bool} {k : Nat}
theorem sX2 {x y : Int32} : (b.sX k x).sX k y = b.sX k y := by
  unfold mg_A.sX mg_A.sI mg_A.I
  dsimp only
  rw [va_eq, va_up_up, va_up_up]
theorem gvL_46t : ¬ (gvL b true).I 505 46 = 0 := show ¬ (1 : Int32) = 0 by decide
theorem gvL_t : (gvL b l).sX 46 1 = gvL b true := sX2
theorem g_fit (hn : 575 ≤ n) (K : ∀ l', cvo id (mv_fit v) l v l' → Q (.inl (some (.long v))) (n, sl, hd (gvL b l') f0)) : mi_W d 178 0 (mi_en 3 [.ref 505, .long v]) [] (n, sl, hd (gvL b l) f0) Q := by
  have kb : ¬ mv_in v → Q (.inl (some (.long v))) (n, sl, hd (gvL b true) f0) := by
    intro h
    refine K true ?_
    unfold mv_fit
    rw [if_neg h]
    cases l <;> rfl
  have kg : mv_in v → Q (.inl (some (.long v))) (n, sl, hd (gvL b l) f0) := by
    intro h
    refine K l ?_
    unfold mv_fit
    rw [if_pos h]
    cases l
    · exact ⟨rfl, rfl⟩
    · rfl
  refine b_178_0 _ _ _ ?_ ?_
  · intro z0
    have hb : ¬ mv_in v := fun h => absurd (lg_gt.mp z0) (Int64.not_lt.mpr (mv_in_i.mp h).2)
    refine b_178_16 _ _ _ (by first | (exact hd_9) | assumption) (by omega) (by rw [mL_len]; decide) (by first | assumption | (exact mL_get (by decide)) | (rw [mL_len]; decide) | (simp only [mL_set]; exact mL_get (by decide)) | (simp only [mL_set, mL_len]; decide) | (exact va_eq) | (exact (va_ne (by omega)).trans (by assumption)) | (exact (va_ne (by omega)).trans va_eq) | (exact (va_ne (by omega)).trans ((va_ne (by omega)).trans (by assumption))) | (exact (va_ne (by omega)).trans ((va_ne (by omega)).trans ((va_ne (by omega)).trans (by assumption)))) | rfl | (exact Or.inl rfl) | (exact Or.inr rfl) | omega | (exact Nat.le_of_ble_eq_true rfl) | decide | (exact ⟨by decide, rfl, by decide⟩)) ?_
    refine hw_W (gw_X (by decide)) ?_
    rw [gvL_t]
    refine b_178_21 _ _ _ ?_
    first | exact kb hb | exact kg (mv_in_i.mpr ⟨Int64.not_lt.mp (lg_ge.mp z8), Int64.not_lt.mp (fun h => z0 (lg_gt.mpr h))⟩)
  · intro z0
    refine b_178_8 _ _ _ ?_ ?_
    · intro z8
      refine b_178_21 _ _ _ ?_
      first | exact kb hb | exact kg (mv_in_i.mpr ⟨Int64.not_lt.mp (lg_ge.mp z8), Int64.not_lt.mp (fun h => z0 (lg_gt.mpr h))⟩)
    · intro z8
      have hb : ¬ mv_in v := fun h => z8 (lg_ge.mpr (Int64.not_lt.mpr (mv_in_i.mp h).1))
      refine b_178_16 _ _ _ (by first | (exact hd_9) | assumption) (by omega) (by rw [mL_len]; decide) (by first | assumption | (exact mL_get (by decide)) | (rw [mL_len]; decide) | (simp only [mL_set]; exact mL_get (by decide)) | (simp only [mL_set, mL_len]; decide) | (exact va_eq) | (exact (va_ne (by omega)).trans (by assumption)) | (exact (va_ne (by omega)).trans va_eq) | (exact (va_ne (by omega)).trans ((va_ne (by omega)).trans (by assumption))) | (exact (va_ne (by omega)).trans ((va_ne (by omega)).trans ((va_ne (by omega)).trans (by assumption)))) | rfl | (exact Or.inl rfl) | (exact Or.inr rfl) | omega | (exact Nat.le_of_ble_eq_true rfl) | decide | (exact ⟨by decide, rfl, by decide⟩)) ?_
      refine hw_W (gw_X (by decide)) ?_
      rw [gvL_t]
      refine b_178_21 _ _ _ ?_
      first | exact kb hb | exact kg (mv_in_i.mpr ⟨Int64.not_lt.mp (lg_ge.mp z8), Int64.not_lt.mp (fun h => z0 (lg_gt.mpr h))⟩)
theorem g_mulh (K : Q (.inl (some (.long (mg_mh u w)))) (n, sl, hd b f0)) : mi_W d 181 0 (mi_en 20 [.long u, .long w]) [] (n, sl, hd b f0) Q := by
  refine b_181_0 _ _ _ ?_
  exact K
theorem g_two_t {o : Int32} (hn : 575 ≤ n) (K : Q (.inl (some (.long 0))) (n, sl, hd (gvL b true) f0)) : mi_W (d + 1) 180 0 (mi_en 9 [.ref 505, .int o, .long u, .long w]) [] (n, sl, hd (gvL b true) f0) Q := by
  refine b_180_0 _ _ _ (by first | (exact hd_9) | assumption) (by omega) (by exact mL_get (by decide)) ?_ ?_
  · intro z0
    exact absurd z0 gvL_46t
  · intro z0
    refine b_180_7 _ _ _ ?_
    exact K
theorem g_two_13 (hn : 575 ≤ n) (hu : mv_in u) (hw : mv_in w) (K : ∀ r l', cvo id (mv_two 13 u w) false r l' → Q (.inl (some (.long r))) (n, sl, hd (gvL b l') f0)) : mi_W (d + 1) 180 0 (mi_en 9 [.ref 505, .int 13, .long u, .long w]) [] (n, sl, hd (gvL b false) f0) Q := by
  refine b_180_0 _ _ _ (by first | (exact hd_9) | assumption) (by omega) (by exact mL_get (by decide)) ?_ ?_
  · intro z0
    refine b_180_9 _ _ _ ?_ ?_
    · intro z9
      refine b_180_21 _ _ _ ?_ ?_
      · intro z21
        first | (exact absurd z21 (by decide)) | (exact absurd (by decide) z21) | (exact absurd rfl z21) | (exact absurd z21 (of_nn (by omega))) | (exact absurd (of_np (by omega)) z21) | omega
      · intro z21
        refine b_180_27 _ _ _ ?_
        refine b_180_38 _ _ _ ?_ ?_
        · intro z38
          first | (exact absurd z38 (by decide)) | (exact absurd (by decide) z38) | (exact absurd rfl z38) | (exact absurd z38 (of_nn (by omega))) | (exact absurd (of_np (by omega)) z38) | omega
        · intro z38
          refine b_180_46 _ _ _ ?_ ?_
          · intro z46
            refine b_180_65 _ _ _ ?_
            refine b_180_88 _ _ _ ?_ ?_
            · intro z88
              refine b_180_100 _ _ _ (by first | (exact hd_9) | assumption) (by omega) ?_
              refine g_fit hn (fun l' c' => ?_)
              refine b_180_106 _ _ _ ?_
              first | exact K _ l' c' | skip
              all_goals have hne := mg_ova hu hw (Classical.not_not.mp (fun h => z46 (lg_ge.mpr h)))
              all_goals refine K _ l' ?_
              all_goals unfold mv_two
              all_goals rw [if_pos rfl]
              all_goals unfold mv_fit
              all_goals rw [if_neg hne]
              all_goals exact c'
            · intro z88
              first | (exact absurd z88 (by decide)) | (exact absurd (by decide) z88) | (exact absurd rfl z88) | (exact absurd z88 (of_nn (by omega))) | (exact absurd (of_np (by omega)) z88) | omega
          · intro z46
            refine b_180_61 _ _ _ ?_
            refine b_180_88 _ _ _ ?_ ?_
            · intro z88
              first | (exact absurd z88 (by decide)) | (exact absurd (by decide) z88) | (exact absurd rfl z88) | (exact absurd z88 (of_nn (by omega))) | (exact absurd (of_np (by omega)) z88) | omega
            · intro z88
              refine b_180_95 _ _ _ (by first | (exact hd_9) | assumption) (by omega) (by rw [mL_len]; decide) (by first | assumption | (exact mL_get (by decide)) | (rw [mL_len]; decide) | (simp only [mL_set]; exact mL_get (by decide)) | (simp only [mL_set, mL_len]; decide) | (exact va_eq) | (exact (va_ne (by omega)).trans (by assumption)) | (exact (va_ne (by omega)).trans va_eq) | (exact (va_ne (by omega)).trans ((va_ne (by omega)).trans (by assumption))) | (exact (va_ne (by omega)).trans ((va_ne (by omega)).trans ((va_ne (by omega)).trans (by assumption)))) | rfl | (exact Or.inl rfl) | (exact Or.inr rfl) | omega | (exact Nat.le_of_ble_eq_true rfl) | decide | (exact ⟨by decide, rfl, by decide⟩)) ?_
              refine hw_W (gw_X (by decide)) ?_
              rw [gvL_t]
              refine b_180_100 _ _ _ (by first | (exact hd_9) | assumption) (by omega) ?_
              refine g_fit hn (fun l' c' => ?_)
              refine b_180_106 _ _ _ ?_
              first | exact K _ l' c' | skip
              all_goals have hne := mg_ova hu hw (Classical.not_not.mp (fun h => z46 (lg_ge.mpr h)))
              all_goals refine K _ l' ?_
              all_goals unfold mv_two
              all_goals rw [if_pos rfl]
              all_goals unfold mv_fit
              all_goals rw [if_neg hne]
              all_goals exact c'
    · intro z9
      first | (exact absurd z9 (by decide)) | (exact absurd (by decide) z9) | (exact absurd rfl z9) | (exact absurd z9 (of_nn (by omega))) | (exact absurd (of_np (by omega)) z9) | omega
  · intro z0
    exact absurd rfl z0
theorem g_two_14 (hn : 575 ≤ n) (hu : mv_in u) (hw : mv_in w) (K : ∀ r l', cvo id (mv_two 14 u w) false r l' → Q (.inl (some (.long r))) (n, sl, hd (gvL b l') f0)) : mi_W (d + 1) 180 0 (mi_en 9 [.ref 505, .int 14, .long u, .long w]) [] (n, sl, hd (gvL b false) f0) Q := by
  refine b_180_0 _ _ _ (by first | (exact hd_9) | assumption) (by omega) (by exact mL_get (by decide)) ?_ ?_
  · intro z0
    refine b_180_9 _ _ _ ?_ ?_
    · intro z9
      first | (exact absurd z9 (by decide)) | (exact absurd (by decide) z9) | (exact absurd rfl z9) | (exact absurd z9 (of_nn (by omega))) | (exact absurd (of_np (by omega)) z9) | omega
    · intro z9
      refine b_180_15 _ _ _ ?_ ?_
      · intro z15
        first | (exact absurd z15 (by decide)) | (exact absurd (by decide) z15) | (exact absurd rfl z15) | (exact absurd z15 (of_nn (by omega))) | (exact absurd (of_np (by omega)) z15) | omega
      · intro z15
        refine b_180_21 _ _ _ ?_ ?_
        · intro z21
          refine b_180_34 _ _ _ ?_
          refine b_180_38 _ _ _ ?_ ?_
          · intro z38
            refine b_180_69 _ _ _ ?_ ?_
            · intro z69
              refine b_180_87 _ _ _ ?_
              refine b_180_88 _ _ _ ?_ ?_
              · intro z88
                refine b_180_100 _ _ _ (by first | (exact hd_9) | assumption) (by omega) ?_
                refine g_fit hn (fun l' c' => ?_)
                refine b_180_106 _ _ _ ?_
                first | exact K _ l' c' | skip
                all_goals have hne := mg_ovs hu hw (Classical.not_not.mp (fun h => z69 (lg_ge.mpr h)))
                all_goals refine K _ l' ?_
                all_goals unfold mv_two
                all_goals rw [if_neg (by decide), if_pos rfl]
                all_goals unfold mv_fit
                all_goals rw [if_neg hne]
                all_goals exact c'
              · intro z88
                first | (exact absurd z88 (by decide)) | (exact absurd (by decide) z88) | (exact absurd rfl z88) | (exact absurd z88 (of_nn (by omega))) | (exact absurd (of_np (by omega)) z88) | omega
            · intro z69
              refine b_180_83 _ _ _ ?_
              refine b_180_88 _ _ _ ?_ ?_
              · intro z88
                first | (exact absurd z88 (by decide)) | (exact absurd (by decide) z88) | (exact absurd rfl z88) | (exact absurd z88 (of_nn (by omega))) | (exact absurd (of_np (by omega)) z88) | omega
              · intro z88
                refine b_180_95 _ _ _ (by first | (exact hd_9) | assumption) (by omega) (by rw [mL_len]; decide) (by first | assumption | (exact mL_get (by decide)) | (rw [mL_len]; decide) | (simp only [mL_set]; exact mL_get (by decide)) | (simp only [mL_set, mL_len]; decide) | (exact va_eq) | (exact (va_ne (by omega)).trans (by assumption)) | (exact (va_ne (by omega)).trans va_eq) | (exact (va_ne (by omega)).trans ((va_ne (by omega)).trans (by assumption))) | (exact (va_ne (by omega)).trans ((va_ne (by omega)).trans ((va_ne (by omega)).trans (by assumption)))) | rfl | (exact Or.inl rfl) | (exact Or.inr rfl) | omega | (exact Nat.le_of_ble_eq_true rfl) | decide | (exact ⟨by decide, rfl, by decide⟩)) ?_
                refine hw_W (gw_X (by decide)) ?_
                rw [gvL_t]
                refine b_180_100 _ _ _ (by first | (exact hd_9) | assumption) (by omega) ?_
                refine g_fit hn (fun l' c' => ?_)
                refine b_180_106 _ _ _ ?_
                first | exact K _ l' c' | skip
                all_goals have hne := mg_ovs hu hw (Classical.not_not.mp (fun h => z69 (lg_ge.mpr h)))
                all_goals refine K _ l' ?_
                all_goals unfold mv_two
                all_goals rw [if_neg (by decide), if_pos rfl]
                all_goals unfold mv_fit
                all_goals rw [if_neg hne]
                all_goals exact c'
          · intro z38
            first | (exact absurd z38 (by decide)) | (exact absurd (by decide) z38) | (exact absurd rfl z38) | (exact absurd z38 (of_nn (by omega))) | (exact absurd (of_np (by omega)) z38) | omega
        · intro z21
          first | (exact absurd z21 (by decide)) | (exact absurd (by decide) z21) | (exact absurd rfl z21) | (exact absurd z21 (of_nn (by omega))) | (exact absurd (of_np (by omega)) z21) | omega
  · intro z0
    exact absurd rfl z0
theorem g_two_16 (hn : 575 ≤ n) (hu : mv_in u) (K : ∀ r l', cvo id (mv_two 16 u w) false r l' → Q (.inl (some (.long r))) (n, sl, hd (gvL b l') f0)) : mi_W (d + 1) 180 0 (mi_en 9 [.ref 505, .int 16, .long u, .long w]) [] (n, sl, hd (gvL b false) f0) Q := by
  refine b_180_0 _ _ _ (by first | (exact hd_9) | assumption) (by omega) (by exact mL_get (by decide)) ?_ ?_
  · intro z0
    refine b_180_9 _ _ _ ?_ ?_
    · intro z9
      first | (exact absurd z9 (by decide)) | (exact absurd (by decide) z9) | (exact absurd rfl z9) | (exact absurd z9 (of_nn (by omega))) | (exact absurd (of_np (by omega)) z9) | omega
    · intro z9
      refine b_180_15 _ _ _ ?_ ?_
      · intro z15
        refine b_180_107 _ _ _ ?_ ?_
        · intro z107
          first | (exact absurd z107 (by decide)) | (exact absurd (by decide) z107) | (exact absurd rfl z107) | (exact absurd z107 (of_nn (by omega))) | (exact absurd (of_np (by omega)) z107) | omega
        · intro z107
          refine b_180_113 _ _ _ ?_ ?_
          · intro z113
            have hw0 : ¬ w = 0 := fun h => z113 (lg_e.mpr h)
            refine b_180_124 _ _ _ (by first | assumption | (exact mL_get (by decide)) | (rw [mL_len]; decide) | (simp only [mL_set]; exact mL_get (by decide)) | (simp only [mL_set, mL_len]; decide) | (exact va_eq) | (exact (va_ne (by omega)).trans (by assumption)) | (exact (va_ne (by omega)).trans va_eq) | (exact (va_ne (by omega)).trans ((va_ne (by omega)).trans (by assumption))) | (exact (va_ne (by omega)).trans ((va_ne (by omega)).trans ((va_ne (by omega)).trans (by assumption)))) | rfl | (exact Or.inl rfl) | (exact Or.inr rfl) | omega | (exact Nat.le_of_ble_eq_true rfl) | decide | (exact ⟨by decide, rfl, by decide⟩)) (by first | (exact hd_9) | assumption) (by omega) ?_
            refine g_fit hn (fun l' c' => ?_)
            refine b_180_132 _ _ _ ?_
            first | exact K 0 false ⟨rfl, (if_pos (lg_e.mp (Classical.not_not.mp z113))).symm⟩ | skip
            all_goals refine K _ l' ?_
            all_goals unfold mv_fit at c'
            all_goals rw [if_pos (mv_div_in hu)] at c'
            all_goals exact ⟨c'.1, (if_neg hw0).symm⟩
          · intro z113
            refine b_180_120 _ _ _ ?_
            refine b_180_132 _ _ _ ?_
            first | exact K 0 false ⟨rfl, (if_pos (lg_e.mp (Classical.not_not.mp z113))).symm⟩ | skip
            all_goals refine K _ l' ?_
            all_goals unfold mv_fit at c'
            all_goals rw [if_pos (mv_div_in hu)] at c'
            all_goals exact ⟨c'.1, (if_neg hw0).symm⟩
      · intro z15
        first | (exact absurd z15 (by decide)) | (exact absurd (by decide) z15) | (exact absurd rfl z15) | (exact absurd z15 (of_nn (by omega))) | (exact absurd (of_np (by omega)) z15) | omega
  · intro z0
    exact absurd rfl z0
theorem g_two_15 (hn : 575 ≤ n) (K : ∀ r l', cvo id (mv_two 15 u w) false r l' → Q (.inl (some (.long r))) (n, sl, hd (gvL b l') f0)) : mi_W (d + 1) 180 0 (mi_en 9 [.ref 505, .int 15, .long u, .long w]) [] (n, sl, hd (gvL b false) f0) Q := by
  have e15 : mv_two 15 u w = mv_mul u w := rfl
  rw [e15] at K
  refine b_180_0 _ _ _ (by first | (exact hd_9) | assumption) (by omega) (by exact mL_get (by decide)) ?_ ?_
  · intro z0
    refine b_180_9 _ _ _ ?_ ?_
    · intro z9
      first | (exact absurd z9 (by decide)) | (exact absurd (by decide) z9) | (exact absurd rfl z9) | (exact absurd z9 (of_nn (by omega))) | (exact absurd (of_np (by omega)) z9) | omega
    · intro z9
      refine b_180_15 _ _ _ ?_ ?_
      · intro z15
        refine b_180_107 _ _ _ ?_ ?_
        · intro z107
          refine b_180_133 _ _ _ ?_
          refine g_mulh ?_
          refine b_180_145 _ _ _ ?_ ?_
          · intro z145
            refine b_180_159 _ _ _ (by first | (exact hd_9) | assumption) (by omega) ?_
            refine g_fit hn (fun l' c' => ?_)
            refine b_180_165 _ _ _ ?_
            refine K _ l' ?_
            unfold mv_mul
            first | (have he := mg_mu1 (lg_e.mp z145)) | (rw [if_neg (fun h => z145 (lg_e.mpr (mg_mu0 h)))]; exact c')
            all_goals unfold mv_fit at c'
            all_goals rw [← he]
            all_goals exact c'
          · intro z145
            refine b_180_154 _ _ _ (by first | (exact hd_9) | assumption) (by omega) (by rw [mL_len]; decide) (by first | assumption | (exact mL_get (by decide)) | (rw [mL_len]; decide) | (simp only [mL_set]; exact mL_get (by decide)) | (simp only [mL_set, mL_len]; decide) | (exact va_eq) | (exact (va_ne (by omega)).trans (by assumption)) | (exact (va_ne (by omega)).trans va_eq) | (exact (va_ne (by omega)).trans ((va_ne (by omega)).trans (by assumption))) | (exact (va_ne (by omega)).trans ((va_ne (by omega)).trans ((va_ne (by omega)).trans (by assumption)))) | rfl | (exact Or.inl rfl) | (exact Or.inr rfl) | omega | (exact Nat.le_of_ble_eq_true rfl) | decide | (exact ⟨by decide, rfl, by decide⟩)) ?_
            refine hw_W (gw_X (by decide)) ?_
            rw [gvL_t]
            refine b_180_159 _ _ _ (by first | (exact hd_9) | assumption) (by omega) ?_
            refine g_fit hn (fun l' c' => ?_)
            refine b_180_165 _ _ _ ?_
            refine K _ l' ?_
            unfold mv_mul
            first | (have he := mg_mu1 (lg_e.mp z145)) | (rw [if_neg (fun h => z145 (lg_e.mpr (mg_mu0 h)))]; exact c')
            all_goals unfold mv_fit at c'
            all_goals rw [← he]
            all_goals exact c'
        · intro z107
          first | (exact absurd z107 (by decide)) | (exact absurd (by decide) z107) | (exact absurd rfl z107) | (exact absurd z107 (of_nn (by omega))) | (exact absurd (of_np (by omega)) z107) | omega
      · intro z15
        first | (exact absurd z15 (by decide)) | (exact absurd (by decide) z15) | (exact absurd rfl z15) | (exact absurd z15 (of_nn (by omega))) | (exact absurd (of_np (by omega)) z15) | omega
  · intro z0
    exact absurd rfl z0
end
