/-! the first object: one reduction -/
section
variable {d e n sl N : Nat} {a a0 a1 a2 : mh_A} {f0 : Nat → mi_C} {Q : (Option Value ⊕ Nat) → mi_H → Prop} {p q i j c k r m : Nat} {tb : Nat → ms_N} {lo hi w : Int64} {Z : mv_Z} {l2 : Int32} {o4 o5 : Option Value} {l4 : Int32}
theorem ct_kind {K0 : Int32} (hn : 575 ≤ n) (hN : a.I 2 3 11 = Int32.ofNat N) (hN8 : N ≤ 800) (hm : m < N) (hk : a.AI 2 3 0 m = K0) (K : Q (.inl (some (.int K0))) (n, sl, hc a f0)) : mi_W (d + 1) 81 0 (mi_en 2 [.ref 3, .int (Int32.ofNat m)]) [] (n, sl, hc a f0) Q := by
  have hix := ix_of (w := m) (m := 800) (by omega) (by omega)
  subst hk
  refine b_81_0 _ _ _ (by first | (exact hc_o (by first | assumption | (exact ⟨by decide, rfl⟩))) | assumption | (exact (hc_far (by omega)).trans (by assumption))) (by omega) ?_
  refine cv_has hn hN hN8 (by omega) (fun _ => ?_) (fun h => ?_)
  · refine b_81_5 _ _ _ ?_ ?_
    · intro z5
      first | (exact absurd z5 (by decide)) | (exact absurd (by decide) z5) | (exact absurd rfl z5) | (exact absurd z5 (of_nn (by omega))) | (exact absurd (of_np (by omega)) z5) | omega
    · intro z5
      refine b_81_8 _ _ _ _ _ _ (by first | (exact hc_o (by first | assumption | (exact ⟨by decide, rfl⟩))) | assumption | (exact (hc_far (by omega)).trans (by assumption))) (by omega) (by first | rfl | assumption) (by first | (exact hc_ai (by omega) (by first | assumption | (exact (ht9 (by assumption)).2.1) | (exact (ht9 (by assumption)).2.2.1) | (exact (ht9 (by assumption)).2.2.2) | rfl) (by decide)) | assumption | (exact (hc_far (by omega)).trans (by assumption))) (Or.inl (by omega)) (by first | assumption | (exact ix_of (by omega) (by omega)) | (exact ⟨by decide, rfl, by decide⟩)) ?_
      refine b_81_18 _ _ _ ?_
      exact K
  · exact absurd hm h
theorem cm_e4 (hn : 575 ≤ n) (hp : mh_o p 7) (he : ¬ a.I 7 p 6 = 0) (K : Q (.inl (some (.int 1))) (n, sl, hc a f0)) : mi_W d 80 4 [some (.ref p), some (.int 1), some (.int (Int32.ofNat i)), o4, o5] [] (n, sl, hc a f0) Q := by
  have hp5 := hp.1
  refine b_80_4 _ _ _ ?_ ?_
  · intro z4
    refine b_80_252 _ _ _ (by first | assumption | (exact mL_get (by decide)) | (rw [mL_len]; decide) | (simp only [mL_set]; exact mL_get (by decide)) | (simp only [mL_set, mL_len]; decide) | (exact va_eq) | (exact (va_ne (by omega)).trans (by assumption)) | (exact (va_ne (by omega)).trans va_eq) | (exact (va_ne (by omega)).trans ((va_ne (by omega)).trans (by assumption))) | (exact (va_ne (by omega)).trans ((va_ne (by omega)).trans ((va_ne (by omega)).trans (by assumption)))) | rfl | (exact Or.inl rfl) | (exact Or.inr rfl) | omega | (exact Nat.le_of_ble_eq_true rfl) | decide | (exact ⟨by decide, rfl, by decide⟩)) ?_
    exact K
  · intro z4
    refine b_80_11 _ _ _ (by first | (exact hc_o (by first | assumption | (exact ⟨by decide, rfl⟩))) | assumption | (exact (hc_far (by omega)).trans (by assumption))) (by omega) (by first | rfl | assumption) ?_ ?_
    · intro z11
      refine b_80_252 _ _ _ (by first | assumption | (exact mL_get (by decide)) | (rw [mL_len]; decide) | (simp only [mL_set]; exact mL_get (by decide)) | (simp only [mL_set, mL_len]; decide) | (exact va_eq) | (exact (va_ne (by omega)).trans (by assumption)) | (exact (va_ne (by omega)).trans va_eq) | (exact (va_ne (by omega)).trans ((va_ne (by omega)).trans (by assumption))) | (exact (va_ne (by omega)).trans ((va_ne (by omega)).trans ((va_ne (by omega)).trans (by assumption)))) | rfl | (exact Or.inl rfl) | (exact Or.inr rfl) | omega | (exact Nat.le_of_ble_eq_true rfl) | decide | (exact ⟨by decide, rfl, by decide⟩)) ?_
      exact K
    · intro z11
      exact absurd (Classical.not_not.mp z11) he
theorem cm_221 (hn : 575 ≤ n) (hp : mh_o p 7) (hr : mh_o (p + 12) 10) (hfl : a.I 10 (p + 12) 4 = 0) (K : mi_W d 80 4 [some (.ref p), some (.int 1), some (.int (Int32.ofNat (i + 1))), some (.int l4), some (.int 1)] [] (n, sl, hc a f0) Q) : mi_W d 80 221 [some (.ref p), some (.int l2), some (.int (Int32.ofNat i)), some (.int l4), some (.int 1)] [] (n, sl, hc a f0) Q := by
  have hp5 := hp.1
  have hr5 := hr.1
  refine b_80_221 _ _ _ (by first | (exact hc_o (by first | assumption | (exact ⟨by decide, rfl⟩))) | assumption | (exact (hc_far (by omega)).trans (by assumption))) (by omega) (by first | rfl | assumption) (by first | (exact hc_o (by first | assumption | (exact ⟨by decide, rfl⟩))) | assumption | (exact (hc_far (by omega)).trans (by assumption))) (by omega) (by first | rfl | assumption) ?_ ?_
  · intro z221
    refine b_80_237 _ _ _ ?_ ?_
    · intro z237
      refine b_80_244 _ _ _ ?_
      rw [of_succ]
      exact K
    · intro z237
      first | (exact absurd z237 (by decide)) | (exact absurd (by decide) z237) | (exact absurd rfl z237) | (exact absurd z237 (of_nn (by omega))) | (exact absurd (of_np (by omega)) z237) | omega
  · intro z221
    exact absurd hfl z221
theorem cm_221l (hn : 575 ≤ n) (hp : mh_o p 7) (hr : mh_o (p + 12) 10) (hfl : a.I 10 (p + 12) 4 = 1) (K : Q (.inl (some (.int 1))) (n, sl, hc (a.sI 7 p 6 6) f0)) : mi_W d 80 221 [some (.ref p), some (.int l2), some (.int (Int32.ofNat i)), some (.int l4), some (.int 1)] [] (n, sl, hc a f0) Q := by
  have hp5 := hp.1
  have hr5 := hr.1
  refine b_80_221 _ _ _ (by first | (exact hc_o (by first | assumption | (exact ⟨by decide, rfl⟩))) | assumption | (exact (hc_far (by omega)).trans (by assumption))) (by omega) (by first | rfl | assumption) (by first | (exact hc_o (by first | assumption | (exact ⟨by decide, rfl⟩))) | assumption | (exact (hc_far (by omega)).trans (by assumption))) (by omega) (by first | rfl | assumption) ?_ ?_
  · intro z221
    exact absurd (hfl.symm.trans z221) (by decide)
  · intro z221
    refine b_80_231 _ _ _ (by first | (exact hc_o (by first | assumption | (exact ⟨by decide, rfl⟩))) | assumption | (exact (hc_far (by omega)).trans (by assumption))) (by omega) (Nat.le_of_ble_eq_true rfl) ?_
    refine hw_W (hw_I (by first | assumption | (exact ⟨by decide, rfl⟩)) (by decide)) ?_
    refine b_80_237 _ _ _ ?_ ?_
    · intro z237
      refine b_80_244 _ _ _ ?_
      rw [of_succ]
      refine cm_e4 hn hp ?_ K
      rw [I_at]
      decide
    · intro z237
      first | (exact absurd z237 (by decide)) | (exact absurd (by decide) z237) | (exact absurd rfl z237) | (exact absurd z237 (of_nn (by omega))) | (exact absurd (of_np (by omega)) z237) | omega
theorem cm_2210 (hn : 575 ≤ n) (hp : mh_o p 7) (hr : mh_o (p + 12) 10) (hfl : a.I 10 (p + 12) 4 = 0) (h01 : l2 = 0 ∨ l2 = 1) (K : Q (.inl (some (.int l2))) (n, sl, hc a f0)) : mi_W d 80 221 [some (.ref p), some (.int l2), some (.int (Int32.ofNat i)), some (.int l4), some (.int 0)] [] (n, sl, hc a f0) Q := by
  have hp5 := hp.1
  have hr5 := hr.1
  refine b_80_221 _ _ _ (by first | (exact hc_o (by first | assumption | (exact ⟨by decide, rfl⟩))) | assumption | (exact (hc_far (by omega)).trans (by assumption))) (by omega) (by first | rfl | assumption) (by first | (exact hc_o (by first | assumption | (exact ⟨by decide, rfl⟩))) | assumption | (exact (hc_far (by omega)).trans (by assumption))) (by omega) (by first | rfl | assumption) ?_ ?_
  · intro z221
    refine b_80_237 _ _ _ ?_ ?_
    · intro z237
      first | (exact absurd z237 (by decide)) | (exact absurd (by decide) z237) | (exact absurd rfl z237) | (exact absurd z237 (of_nn (by omega))) | (exact absurd (of_np (by omega)) z237) | omega
    · intro z237
      refine b_80_242 _ _ _ (by first | assumption | (exact mL_get (by decide)) | (rw [mL_len]; decide) | (simp only [mL_set]; exact mL_get (by decide)) | (simp only [mL_set, mL_len]; decide) | (exact va_eq) | (exact (va_ne (by omega)).trans (by assumption)) | (exact (va_ne (by omega)).trans va_eq) | (exact (va_ne (by omega)).trans ((va_ne (by omega)).trans (by assumption))) | (exact (va_ne (by omega)).trans ((va_ne (by omega)).trans ((va_ne (by omega)).trans (by assumption)))) | rfl | (exact Or.inl rfl) | (exact Or.inr rfl) | omega | (exact Nat.le_of_ble_eq_true rfl) | decide | (exact ⟨by decide, rfl, by decide⟩)) ?_
      exact K
  · intro z221
    exact absurd hfl z221
/-- the three ways a reduction goes -/
def cKs (n sl : Nat) (f0 : Nat → mi_C) (Q : (Option Value ⊕ Nat) → mi_H → Prop) (d : Nat) (a : mh_A) (p q N : Nat) (tb : Nat → ms_N) (lo hi : Int64) (Z : mv_Z) (i : Nat) (l2 : Int32) (s : Except Nat (Option mv_Z)) : Prop := (s = .ok none → Q (.inl (some (.int l2))) (n, sl, hc a f0)) ∧ (∀ Z' a' o4 o5, s = .ok (some Z') → cMf p q a a' → cM a' p q N tb lo hi Z' → a'.I 7 p 6 = 0 → a'.I 10 (p + 12) 4 = 0 → mi_W d 80 4 [some (.ref p), some (.int 1), some (.int (Int32.ofNat (i + 1))), o4, o5] [] (n, sl, hc a' f0) Q) ∧ (∀ x a' r, s = .error x → cMf p q a a' → a'.I 7 p 6 = Int32.ofNat x → Q (.inl (some (.int r))) (n, sl, hc a' f0))
theorem mz_un {s : Nat} (h : mz_ok tb N (k + 1) s m) : (m < N ∧ mz_so (tb m).1 = s ∧ mz_ad (tb m) ∧ ((mz_t 4 (tb m).1 = true ∨ mz_t 5 (tb m).1 = true) → m < (tb m).2.2.2.2.2.1 ∧ mz_ok tb N k (mz_sx (tb m).1) (tb m).2.2.2.2.2.1) ∧ (mz_t 6 (tb m).1 = true → mz_ls tb N (mz_ok tb N k) 8 m (tb m).2.2.2.2.2.1) ∧ ((mz_t 7 (tb m).1 = true ∨ mz_t 8 (tb m).1 = true ∨ mz_t 9 (tb m).1 = true) → m < (tb m).2.2.2.2.2.2.1 ∧ mz_ok tb N k (mz_sy (tb m).1) (tb m).2.2.2.2.2.2.1) ∧ (mz_t 10 (tb m).1 = true → m < (tb m).2.2.2.2.2.2.2.1 ∧ mz_ok tb N k (mz_sz (tb m).1) (tb m).2.2.2.2.2.2.2.1)) := h
theorem mz_u1 {s : Nat} (h : mz_ok tb N 100 s m) : m < N := (mz_un (k := 99) h).1
theorem mv_s1_0 {R : mv_R} {A B D x y z : Nat} {v : Int64} {u : Nat × Nat} : mv_s1 R lo hi Z (0, A, B, D, v, x, y, z, u) = (if mv_ff Z.S.ac 32 0 = 32 then .ok none else .ok (some (mv_cl Z (mv_ff Z.S.ac 32 0)))) := rfl
theorem mv_s1_4 {R : mv_R} {A B D x y z : Nat} {v : Int64} {u : Nat × Nat} : mv_s1 R lo hi Z (4, A, B, D, v, x, y, z, u) = (if hi < v then .ok none else if lo < v then .error 3 else .ok (some (Z.go y))) := by
  unfold mv_s1
  dsimp only
  rw [if_neg (by decide), if_neg (by decide), if_neg (by decide), if_pos rfl]
theorem mz_dn {s x : Nat} (h : mz_ok tb N 99 s x) : mz_ok tb N 100 s x := mz_ok.mono 99 s x h
theorem cm_s0 {A B D x y z : Nat} {v : Int64} {u : Nat × Nat} (hn : 575 ≤ n) (h : cM a p q N tb lo hi Z) (hfl : a.I 10 (p + 12) 4 = 0) (hel : a.I 7 p 6 = 0) (hS : mv_ok Z.S) (hok : mz_ok tb N 100 0 Z.S.at) (h01 : l2 = 0 ∨ l2 = 1) (hcm : tb Z.S.at = (0, A, B, D, v, x, y, z, u)) (K : cKs n sl f0 Q (e + 112) a p q N tb lo hi Z i l2 (mv_s1 (mv_E tb Z.S lo hi 100) lo hi Z (0, A, B, D, v, x, y, z, u))) : mi_W (e + 112) 80 18 [some (.ref p), some (.int l2), some (.int (Int32.ofNat i)), o4, o5] [] (n, sl, hc a f0) Q := by
  obtain ⟨hR, hqo, hq, hp68, hpo, hro, heo⟩ := h.R
  have hq5 := hq.1
  have hqo5 := hqo.1
  have hp12 := hro.1
  have hN := h.2.2.1.1.1
  have hN8 := h.2.2.1.1.2
  have hm := mz_u1 hok
  obtain ⟨-, -, had, hx, -, hy, hz⟩ := mz_un (k := 99) hok
  have hrow := h.row hm
  rw [hcm] at hrow had hx hy hz
  unfold mz_ad at had
  dsimp only at had hx hy hz
  have h0 : a.AI 2 3 0 Z.S.at = 0 := hrow.1 0 (by decide) (by decide)
  have hat := h.2.2.2.1.2.1.1
  have hix := ix_of (w := Z.S.at) (m := 800) (by omega) (by omega)
  refine b_80_18 _ _ _ (by first | (exact hc_o (by first | assumption | (exact ⟨by decide, rfl⟩))) | assumption | (exact (hc_far (by omega)).trans (by assumption))) (by omega) (by first | rfl | assumption) (by first | (exact hc_o (by first | assumption | (exact ⟨by decide, rfl⟩))) | assumption | (exact (hc_far (by omega)).trans (by assumption))) (by omega) (by first | rfl | assumption) (by first | (exact hc_o (by first | assumption | (exact ⟨by decide, rfl⟩))) | assumption | (exact (hc_far (by omega)).trans (by assumption))) (by omega) (by first | rfl | assumption) (by first | (exact hc_o (by first | assumption | (exact ⟨by decide, rfl⟩))) | assumption | (exact (hc_far (by omega)).trans (by assumption))) (by omega) ?_
  rw [hR, hat]
  refine ct_kind hn hN hN8 hm h0 ?_
  refine b_80_37 (t7 := 84) _ _ _ (by decide +kernel) ?_
  refine b_80_84 _ _ _ (by first | (exact hc_o (by first | assumption | (exact ⟨by decide, rfl⟩))) | assumption | (exact (hc_far (by omega)).trans (by assumption))) (by omega) ?_
  refine cm_close hn h (fun hk => ?_) (fun hk a1 f1 e1 g1 k1 => ?_)
  · refine b_80_88 _ _ _ ?_
    refine cm_2210 hn hpo hro hfl h01 (K.1 ?_)
    rw [mv_s1_0, if_pos hk]
  · refine b_80_88 _ _ _ ?_
    refine cm_221 hn hpo hro (g1.trans hfl) (K.2.1 _ a1 _ _ ?_ f1 k1 (e1.trans hel) (g1.trans hfl))
    rw [mv_s1_0, if_neg (by omega)]
theorem cm_s1 {A B D x y z : Nat} {v : Int64} {u : Nat × Nat} (hn : 575 ≤ n) (h : cM a p q N tb lo hi Z) (hfl : a.I 10 (p + 12) 4 = 0) (hel : a.I 7 p 6 = 0) (hS : mv_ok Z.S) (hok : mz_ok tb N 100 0 Z.S.at) (h01 : l2 = 0 ∨ l2 = 1) (hcm : tb Z.S.at = (1, A, B, D, v, x, y, z, u)) (K : cKs n sl f0 Q (e + 112) a p q N tb lo hi Z i l2 (mv_s1 (mv_E tb Z.S lo hi 100) lo hi Z (1, A, B, D, v, x, y, z, u))) : mi_W (e + 112) 80 18 [some (.ref p), some (.int l2), some (.int (Int32.ofNat i)), o4, o5] [] (n, sl, hc a f0) Q := by
  obtain ⟨hR, hqo, hq, hp68, hpo, hro, heo⟩ := h.R
  have hq5 := hq.1
  have hqo5 := hqo.1
  have hp12 := hro.1
  have hN := h.2.2.1.1.1
  have hN8 := h.2.2.1.1.2
  have hm := mz_u1 hok
  obtain ⟨-, -, had, hx, -, hy, hz⟩ := mz_un (k := 99) hok
  have hrow := h.row hm
  rw [hcm] at hrow had hx hy hz
  unfold mz_ad at had
  dsimp only at had hx hy hz
  have h0 : a.AI 2 3 0 Z.S.at = 1 := hrow.1 0 (by decide) (by decide)
  have hat := h.2.2.2.1.2.1.1
  have hix := ix_of (w := Z.S.at) (m := 800) (by omega) (by omega)
  have hxk : mz_ok tb N 100 1 x := mz_dn (hx (by decide)).2
  have hyk : mz_ok tb N 100 0 y := mz_dn (hy (by decide)).2
  have hyN := mz_u1 hyk
  refine b_80_18 _ _ _ (by first | (exact hc_o (by first | assumption | (exact ⟨by decide, rfl⟩))) | assumption | (exact (hc_far (by omega)).trans (by assumption))) (by omega) (by first | rfl | assumption) (by first | (exact hc_o (by first | assumption | (exact ⟨by decide, rfl⟩))) | assumption | (exact (hc_far (by omega)).trans (by assumption))) (by omega) (by first | rfl | assumption) (by first | (exact hc_o (by first | assumption | (exact ⟨by decide, rfl⟩))) | assumption | (exact (hc_far (by omega)).trans (by assumption))) (by omega) (by first | rfl | assumption) (by first | (exact hc_o (by first | assumption | (exact ⟨by decide, rfl⟩))) | assumption | (exact (hc_far (by omega)).trans (by assumption))) (by omega) ?_
  rw [hR, hat]
  refine ct_kind hn hN hN8 hm h0 ?_
  refine b_80_37 (t7 := 93) _ _ _ (by decide +kernel) ?_
  refine b_80_93 _ _ _ (by first | (exact hc_o (by first | assumption | (exact ⟨by decide, rfl⟩))) | assumption | (exact (hc_far (by omega)).trans (by assumption))) (by omega) ?_
  refine cm_pay1 (e := e + 1) hn h hfl hS hm hcm (by omega) (had.1 (by decide)) (had.2.1 (by decide)) (had.2.2 (by decide)) hxk (fun r1 l1 a1 c1 f1 g1 k1 b1 => ?_)
  refine b_80_98 _ _ _ ?_
  have hst : mv_s1 (mv_E tb Z.S lo hi 100) lo hi Z (1, A, B, D, v, x, y, z, u) = (match (mv_E tb Z.S lo hi 100).1 x with | none => .error 6 | some w => if (mv_pay 1 A B D y Z.S.at Z w).2 = true then .ok (some (mv_pay 1 A B D y Z.S.at Z w).1) else .error 6) := rfl
  cases hv : (mv_E tb Z.S lo hi 100).1 x with
  | none =>
    rw [hv] at hst c1
    have hl : l1 = true := c1
    subst hl
    refine cm_221l hn hpo hro g1 (K.2.2 6 _ 1 hst (f1.sI (Or.inr (Or.inr (Or.inr ⟨rfl, rfl, rfl⟩)))) ?_)
    rw [I_at]
    rfl
  | some w =>
    rw [hv] at hst c1
    have hl : l1 = false ∧ r1 = w := c1
    obtain ⟨hl, rfl⟩ := hl
    subst hl
    dsimp only at hst
    rcases b1 with ⟨b1, e1⟩ | ⟨b1, e1⟩
    · rw [if_pos b1] at hst
      exact cm_221 hn hpo hro g1 (K.2.1 _ a1 _ _ hst f1 k1 (e1.trans hel) g1)
    · rw [if_neg b1] at hst
      refine cm_221 hn hpo hro g1 (cm_e4 hn hpo ?_ (K.2.2 6 _ 1 hst f1 e1))
      rw [e1]
      decide
theorem cm_s2 {A B D x y z : Nat} {v : Int64} {u : Nat × Nat} (hn : 575 ≤ n) (h : cM a p q N tb lo hi Z) (hfl : a.I 10 (p + 12) 4 = 0) (hel : a.I 7 p 6 = 0) (hS : mv_ok Z.S) (hok : mz_ok tb N 100 0 Z.S.at) (h01 : l2 = 0 ∨ l2 = 1) (hcm : tb Z.S.at = (2, A, B, D, v, x, y, z, u)) (K : cKs n sl f0 Q (e + 112) a p q N tb lo hi Z i l2 (mv_s1 (mv_E tb Z.S lo hi 100) lo hi Z (2, A, B, D, v, x, y, z, u))) : mi_W (e + 112) 80 18 [some (.ref p), some (.int l2), some (.int (Int32.ofNat i)), o4, o5] [] (n, sl, hc a f0) Q := by
  obtain ⟨hR, hqo, hq, hp68, hpo, hro, heo⟩ := h.R
  have hq5 := hq.1
  have hqo5 := hqo.1
  have hp12 := hro.1
  have hN := h.2.2.1.1.1
  have hN8 := h.2.2.1.1.2
  have hm := mz_u1 hok
  obtain ⟨-, -, had, hx, -, hy, hz⟩ := mz_un (k := 99) hok
  have hrow := h.row hm
  rw [hcm] at hrow had hx hy hz
  unfold mz_ad at had
  dsimp only at had hx hy hz
  have h0 : a.AI 2 3 0 Z.S.at = 1 := hrow.1 0 (by decide) (by decide)
  have hat := h.2.2.2.1.2.1.1
  have hix := ix_of (w := Z.S.at) (m := 800) (by omega) (by omega)
  have hxk : mz_ok tb N 100 1 x := mz_dn (hx (by decide)).2
  have hyk : mz_ok tb N 100 0 y := mz_dn (hy (by decide)).2
  have hyN := mz_u1 hyk
  refine b_80_18 _ _ _ (by first | (exact hc_o (by first | assumption | (exact ⟨by decide, rfl⟩))) | assumption | (exact (hc_far (by omega)).trans (by assumption))) (by omega) (by first | rfl | assumption) (by first | (exact hc_o (by first | assumption | (exact ⟨by decide, rfl⟩))) | assumption | (exact (hc_far (by omega)).trans (by assumption))) (by omega) (by first | rfl | assumption) (by first | (exact hc_o (by first | assumption | (exact ⟨by decide, rfl⟩))) | assumption | (exact (hc_far (by omega)).trans (by assumption))) (by omega) (by first | rfl | assumption) (by first | (exact hc_o (by first | assumption | (exact ⟨by decide, rfl⟩))) | assumption | (exact (hc_far (by omega)).trans (by assumption))) (by omega) ?_
  rw [hR, hat]
  refine ct_kind hn hN hN8 hm h0 ?_
  refine b_80_37 (t7 := 93) _ _ _ (by decide +kernel) ?_
  refine b_80_93 _ _ _ (by first | (exact hc_o (by first | assumption | (exact ⟨by decide, rfl⟩))) | assumption | (exact (hc_far (by omega)).trans (by assumption))) (by omega) ?_
  refine cm_pay2 (e := e + 1) hn h hfl hS hm hcm (by omega) (had.1 (by decide)) (had.2.1 (by decide)) (had.2.2 (by decide)) hxk (fun r1 l1 a1 c1 f1 g1 k1 b1 => ?_)
  refine b_80_98 _ _ _ ?_
  have hst : mv_s1 (mv_E tb Z.S lo hi 100) lo hi Z (2, A, B, D, v, x, y, z, u) = (match (mv_E tb Z.S lo hi 100).1 x with | none => .error 6 | some w => if (mv_pay 2 A B D y Z.S.at Z w).2 = true then .ok (some (mv_pay 2 A B D y Z.S.at Z w).1) else .error 6) := rfl
  cases hv : (mv_E tb Z.S lo hi 100).1 x with
  | none =>
    rw [hv] at hst c1
    have hl : l1 = true := c1
    subst hl
    refine cm_221l hn hpo hro g1 (K.2.2 6 _ 1 hst (f1.sI (Or.inr (Or.inr (Or.inr ⟨rfl, rfl, rfl⟩)))) ?_)
    rw [I_at]
    rfl
  | some w =>
    rw [hv] at hst c1
    have hl : l1 = false ∧ r1 = w := c1
    obtain ⟨hl, rfl⟩ := hl
    subst hl
    dsimp only at hst
    rcases b1 with ⟨b1, e1⟩ | ⟨b1, e1⟩
    · rw [if_pos b1] at hst
      exact cm_221 hn hpo hro g1 (K.2.1 _ a1 _ _ hst f1 k1 (e1.trans hel) g1)
    · rw [if_neg b1] at hst
      refine cm_221 hn hpo hro g1 (cm_e4 hn hpo ?_ (K.2.2 6 _ 1 hst f1 e1))
      rw [e1]
      decide
theorem cm_s3 {A B D x y z : Nat} {v : Int64} {u : Nat × Nat} (hn : 575 ≤ n) (h : cM a p q N tb lo hi Z) (hfl : a.I 10 (p + 12) 4 = 0) (hel : a.I 7 p 6 = 0) (hS : mv_ok Z.S) (hok : mz_ok tb N 100 0 Z.S.at) (h01 : l2 = 0 ∨ l2 = 1) (hcm : tb Z.S.at = (3, A, B, D, v, x, y, z, u)) (K : cKs n sl f0 Q (e + 112) a p q N tb lo hi Z i l2 (mv_s1 (mv_E tb Z.S lo hi 100) lo hi Z (3, A, B, D, v, x, y, z, u))) : mi_W (e + 112) 80 18 [some (.ref p), some (.int l2), some (.int (Int32.ofNat i)), o4, o5] [] (n, sl, hc a f0) Q := by
  obtain ⟨hR, hqo, hq, hp68, hpo, hro, heo⟩ := h.R
  have hq5 := hq.1
  have hqo5 := hqo.1
  have hp12 := hro.1
  have hN := h.2.2.1.1.1
  have hN8 := h.2.2.1.1.2
  have hm := mz_u1 hok
  obtain ⟨-, -, had, hx, -, hy, hz⟩ := mz_un (k := 99) hok
  have hrow := h.row hm
  rw [hcm] at hrow had hx hy hz
  unfold mz_ad at had
  dsimp only at had hx hy hz
  have h0 : a.AI 2 3 0 Z.S.at = 4 := hrow.1 0 (by decide) (by decide)
  have hat := h.2.2.2.1.2.1.1
  have hix := ix_of (w := Z.S.at) (m := 800) (by omega) (by omega)
  have hxk : mz_ok tb N 100 2 x := mz_dn (hx (by decide)).2
  have hyk : mz_ok tb N 100 0 y := mz_dn (hy (by decide)).2
  have hyN := mz_u1 hyk
  have hzk : mz_ok tb N 100 0 z := mz_dn (hz (by decide)).2
  have hzN := mz_u1 hzk
  refine b_80_18 _ _ _ (by first | (exact hc_o (by first | assumption | (exact ⟨by decide, rfl⟩))) | assumption | (exact (hc_far (by omega)).trans (by assumption))) (by omega) (by first | rfl | assumption) (by first | (exact hc_o (by first | assumption | (exact ⟨by decide, rfl⟩))) | assumption | (exact (hc_far (by omega)).trans (by assumption))) (by omega) (by first | rfl | assumption) (by first | (exact hc_o (by first | assumption | (exact ⟨by decide, rfl⟩))) | assumption | (exact (hc_far (by omega)).trans (by assumption))) (by omega) (by first | rfl | assumption) (by first | (exact hc_o (by first | assumption | (exact ⟨by decide, rfl⟩))) | assumption | (exact (hc_far (by omega)).trans (by assumption))) (by omega) ?_
  rw [hR, hat]
  refine ct_kind hn hN hN8 hm h0 ?_
  refine b_80_37 (t7 := 101) _ _ _ (by decide +kernel) ?_
  refine b_80_101 _ _ _ _ _ _ (by first | (exact hc_o (by first | assumption | (exact ⟨by decide, rfl⟩))) | assumption | (exact (hc_far (by omega)).trans (by assumption))) (by omega) (by first | rfl | assumption) (by first | (exact hc_o (by first | assumption | (exact ⟨by decide, rfl⟩))) | assumption | (exact (hc_far (by omega)).trans (by assumption))) (by omega) (by first | rfl | assumption) (by first | (exact hc_o (by first | assumption | (exact ⟨by decide, rfl⟩))) | assumption | (exact (hc_far (by omega)).trans (by assumption))) (by omega) (by first | rfl | assumption) (by first | (exact hc_o (by first | assumption | (exact ⟨by decide, rfl⟩))) | assumption | (exact (hc_far (by omega)).trans (by assumption))) (by omega) (by first | rfl | assumption) (by first | (exact hc_ai (by omega) (by first | assumption | (exact (ht9 (by assumption)).2.1) | (exact (ht9 (by assumption)).2.2.1) | (exact (ht9 (by assumption)).2.2.2) | rfl) (by decide)) | assumption | (exact (hc_far (by omega)).trans (by assumption))) (Or.inl (by omega)) (by first | assumption | (exact ix_of (by omega) (by omega)) | (exact ⟨by decide, rfl, by decide⟩)) (by first | (exact hc_o (by first | assumption | (exact ⟨by decide, rfl⟩))) | assumption | (exact (hc_far (by omega)).trans (by assumption))) (by omega) ?_
  rw [show a.AI 2 3 1 Z.S.at = Int32.ofNat x from hrow.1 1 (by decide) (by decide), hR]
  refine (cv_E hn (h.rk hfl hS) 100 (Nat.le_refl _)).2 x 1 _ false _ (by omega) (by omega) hxk (fun r1 l1 _ c1 => ?_)
  have k1 := h.cvL (l := l1)
  have f1 := (cMf.re (p := p) (q := q) (a := a)).cvL (l := l1)
  have g1 := cvL_fl (l := l1) hfl
  have e1 := (cvL_er (p := p) (a := a) (l := l1)).trans hel
  generalize cvL (p + 12) a l1 = a1 at *
  have hrow1 := k1.row hm
  rw [hcm] at hrow1
  refine b_80_122 _ _ _ ?_ ?_
  · intro z122
    obtain ⟨j, hj, hjN⟩ : ∃ j, j = z ∧ j < N := ⟨z, rfl, hzN⟩
    have hjv : a1.AI 2 3 3 Z.S.at = Int32.ofNat j := by rw [hj]; exact hrow1.1 3 (by decide) (by decide)
    refine b_80_137 _ _ _ _ _ _ (by first | (exact hc_o (by first | assumption | (exact ⟨by decide, rfl⟩))) | assumption | (exact (hc_far (by omega)).trans (by assumption))) (by omega) (by first | rfl | assumption) (by first | (exact hc_o (by first | assumption | (exact ⟨by decide, rfl⟩))) | assumption | (exact (hc_far (by omega)).trans (by assumption))) (by omega) (by first | rfl | assumption) (by first | (exact hc_ai (by omega) (by first | assumption | (exact (ht9 (by assumption)).2.1) | (exact (ht9 (by assumption)).2.2.1) | (exact (ht9 (by assumption)).2.2.2) | rfl) (by decide)) | assumption | (exact (hc_far (by omega)).trans (by assumption))) (Or.inl (by omega)) (by first | assumption | (exact ix_of (by omega) (by omega)) | (exact ⟨by decide, rfl, by decide⟩)) ?_
    refine b_80_146 _ _ _ (by first | (exact hc_o (by first | assumption | (exact ⟨by decide, rfl⟩))) | assumption | (exact (hc_far (by omega)).trans (by assumption))) (by omega) (Nat.le_of_ble_eq_true rfl) ?_
    refine hw_W (hw_I (by first | assumption | (exact ⟨by decide, rfl⟩)) (by decide)) ?_
    rw [hjv]
    have hst : mv_s1 (mv_E tb Z.S lo hi 100) lo hi Z (3, A, B, D, v, x, y, z, u) = (match (mv_E tb Z.S lo hi 100).2 x with | none => .error 6 | some b => .ok (some (Z.go (if b = true then y else z)))) := rfl
    have k2 := k1.go (i := j) (by omega)
    have f2 := f1.sI (c := 9) (r := q) (k := 0) (v := Int32.ofNat j) (Or.inl ⟨rfl, rfl⟩)
    have g2 : (a1.sI 9 q 0 (Int32.ofNat j)).I 10 (p + 12) 4 = cfl l1 := g1
    have e2 : (a1.sI 9 q 0 (Int32.ofNat j)).I 7 p 6 = 0 := e1
    generalize a1.sI 9 q 0 (Int32.ofNat j) = a2 at *
    cases hv : (mv_E tb Z.S lo hi 100).2 x with
    | none =>
      rw [hv] at hst c1
      have hl : l1 = true := c1
      subst hl
      refine cm_221l hn hpo hro g2 (K.2.2 6 _ 1 hst (f2.sI (Or.inr (Or.inr (Or.inr ⟨rfl, rfl, rfl⟩)))) ?_)
      rw [I_at]
      rfl
    | some b =>
      rw [hv] at hst c1
      have hl : l1 = false ∧ r1 = cvt b := c1
      obtain ⟨hl, hr⟩ := hl
      subst hl
      have hjb : j = if b = true then y else z := by
        rw [hj]
        cases b
        · first | rfl | exact absurd hr z122
        · first | rfl | exact absurd (hr.symm.trans z122) (by decide)
      rw [hjb] at k2
      exact cm_221 hn hpo hro g2 (K.2.1 _ a2 _ _ hst f2 k2 e2 g2)
  · intro z122
    obtain ⟨j, hj, hjN⟩ : ∃ j, j = y ∧ j < N := ⟨y, rfl, hyN⟩
    have hjv : a1.AI 2 3 2 Z.S.at = Int32.ofNat j := by rw [hj]; exact hrow1.1 2 (by decide) (by decide)
    refine b_80_125 _ _ _ _ _ _ (by first | (exact hc_o (by first | assumption | (exact ⟨by decide, rfl⟩))) | assumption | (exact (hc_far (by omega)).trans (by assumption))) (by omega) (by first | rfl | assumption) (by first | (exact hc_o (by first | assumption | (exact ⟨by decide, rfl⟩))) | assumption | (exact (hc_far (by omega)).trans (by assumption))) (by omega) (by first | rfl | assumption) (by first | (exact hc_ai (by omega) (by first | assumption | (exact (ht9 (by assumption)).2.1) | (exact (ht9 (by assumption)).2.2.1) | (exact (ht9 (by assumption)).2.2.2) | rfl) (by decide)) | assumption | (exact (hc_far (by omega)).trans (by assumption))) (Or.inl (by omega)) (by first | assumption | (exact ix_of (by omega) (by omega)) | (exact ⟨by decide, rfl, by decide⟩)) ?_
    refine b_80_146 _ _ _ (by first | (exact hc_o (by first | assumption | (exact ⟨by decide, rfl⟩))) | assumption | (exact (hc_far (by omega)).trans (by assumption))) (by omega) (Nat.le_of_ble_eq_true rfl) ?_
    refine hw_W (hw_I (by first | assumption | (exact ⟨by decide, rfl⟩)) (by decide)) ?_
    rw [hjv]
    have hst : mv_s1 (mv_E tb Z.S lo hi 100) lo hi Z (3, A, B, D, v, x, y, z, u) = (match (mv_E tb Z.S lo hi 100).2 x with | none => .error 6 | some b => .ok (some (Z.go (if b = true then y else z)))) := rfl
    have k2 := k1.go (i := j) (by omega)
    have f2 := f1.sI (c := 9) (r := q) (k := 0) (v := Int32.ofNat j) (Or.inl ⟨rfl, rfl⟩)
    have g2 : (a1.sI 9 q 0 (Int32.ofNat j)).I 10 (p + 12) 4 = cfl l1 := g1
    have e2 : (a1.sI 9 q 0 (Int32.ofNat j)).I 7 p 6 = 0 := e1
    generalize a1.sI 9 q 0 (Int32.ofNat j) = a2 at *
    cases hv : (mv_E tb Z.S lo hi 100).2 x with
    | none =>
      rw [hv] at hst c1
      have hl : l1 = true := c1
      subst hl
      refine cm_221l hn hpo hro g2 (K.2.2 6 _ 1 hst (f2.sI (Or.inr (Or.inr (Or.inr ⟨rfl, rfl, rfl⟩)))) ?_)
      rw [I_at]
      rfl
    | some b =>
      rw [hv] at hst c1
      have hl : l1 = false ∧ r1 = cvt b := c1
      obtain ⟨hl, hr⟩ := hl
      subst hl
      have hjb : j = if b = true then y else z := by
        rw [hj]
        cases b
        · first | rfl | exact absurd hr z122
        · first | rfl | exact absurd (hr.symm.trans z122) (by decide)
      rw [hjb] at k2
      exact cm_221 hn hpo hro g2 (K.2.1 _ a2 _ _ hst f2 k2 e2 g2)
theorem cm_s4 {A B D x y z : Nat} {v : Int64} {u : Nat × Nat} (hn : 575 ≤ n) (h : cM a p q N tb lo hi Z) (hfl : a.I 10 (p + 12) 4 = 0) (hel : a.I 7 p 6 = 0) (hS : mv_ok Z.S) (hok : mz_ok tb N 100 0 Z.S.at) (h01 : l2 = 0 ∨ l2 = 1) (hcm : tb Z.S.at = (4, A, B, D, v, x, y, z, u)) (K : cKs n sl f0 Q (e + 112) a p q N tb lo hi Z i l2 (mv_s1 (mv_E tb Z.S lo hi 100) lo hi Z (4, A, B, D, v, x, y, z, u))) : mi_W (e + 112) 80 18 [some (.ref p), some (.int l2), some (.int (Int32.ofNat i)), o4, o5] [] (n, sl, hc a f0) Q := by
  obtain ⟨hR, hqo, hq, hp68, hpo, hro, heo⟩ := h.R
  have hq5 := hq.1
  have hqo5 := hqo.1
  have hp12 := hro.1
  have hN := h.2.2.1.1.1
  have hN8 := h.2.2.1.1.2
  have hm := mz_u1 hok
  obtain ⟨-, -, had, hx, -, hy, hz⟩ := mz_un (k := 99) hok
  have hrow := h.row hm
  rw [hcm] at hrow had hx hy hz
  unfold mz_ad at had
  dsimp only at had hx hy hz
  have h0 : a.AI 2 3 0 Z.S.at = 5 := hrow.1 0 (by decide) (by decide)
  have hat := h.2.2.2.1.2.1.1
  have hix := ix_of (w := Z.S.at) (m := 800) (by omega) (by omega)
  have hyk : mz_ok tb N 100 0 y := mz_dn (hy (by decide)).2
  have hyN := mz_u1 hyk
  refine b_80_18 _ _ _ (by first | (exact hc_o (by first | assumption | (exact ⟨by decide, rfl⟩))) | assumption | (exact (hc_far (by omega)).trans (by assumption))) (by omega) (by first | rfl | assumption) (by first | (exact hc_o (by first | assumption | (exact ⟨by decide, rfl⟩))) | assumption | (exact (hc_far (by omega)).trans (by assumption))) (by omega) (by first | rfl | assumption) (by first | (exact hc_o (by first | assumption | (exact ⟨by decide, rfl⟩))) | assumption | (exact (hc_far (by omega)).trans (by assumption))) (by omega) (by first | rfl | assumption) (by first | (exact hc_o (by first | assumption | (exact ⟨by decide, rfl⟩))) | assumption | (exact (hc_far (by omega)).trans (by assumption))) (by omega) ?_
  rw [hR, hat]
  refine ct_kind hn hN hN8 hm h0 ?_
  refine b_80_37 (t7 := 152) _ _ _ (by decide +kernel) ?_
  refine b_80_152 _ _ _ (by first | (exact hc_o (by first | assumption | (exact ⟨by decide, rfl⟩))) | assumption | (exact (hc_far (by omega)).trans (by assumption))) (by omega) ?_
  refine cm_pass hn h hm hcm (by omega) (fun h1 => ?_) (fun h1 h2 => ?_) (fun h1 h2 => ?_)
  · refine b_80_157 _ _ _ ?_
    refine cm_2210 hn hpo hro hfl h01 (K.1 ?_)
    rw [mv_s1_4, if_pos h1]
  · refine b_80_157 _ _ _ ?_
    refine cm_2210 hn hpo hro hfl h01 (K.2.2 3 _ l2 ?_ (cMf.re.sI (Or.inr (Or.inr (Or.inr ⟨rfl, rfl, rfl⟩)))) (by rw [I_at]; rfl))
    rw [mv_s1_4, if_neg h1, if_pos h2]
  · refine b_80_157 _ _ _ ?_
    refine cm_221 hn hpo hro hfl (K.2.1 _ _ _ _ ?_ (cMf.re.sI (Or.inl ⟨rfl, rfl⟩)) (h.go (by omega)) hel hfl)
    rw [mv_s1_4, if_neg h1, if_neg h2]
theorem cm_s5 {A B D x y z : Nat} {v : Int64} {u : Nat × Nat} (hn : 575 ≤ n) (h : cM a p q N tb lo hi Z) (hfl : a.I 10 (p + 12) 4 = 0) (hel : a.I 7 p 6 = 0) (hS : mv_ok Z.S) (hok : mz_ok tb N 100 0 Z.S.at) (h01 : l2 = 0 ∨ l2 = 1) (hcm : tb Z.S.at = (5, A, B, D, v, x, y, z, u)) (K : cKs n sl f0 Q (e + 112) a p q N tb lo hi Z i l2 (mv_s1 (mv_E tb Z.S lo hi 100) lo hi Z (5, A, B, D, v, x, y, z, u))) : mi_W (e + 112) 80 18 [some (.ref p), some (.int l2), some (.int (Int32.ofNat i)), o4, o5] [] (n, sl, hc a f0) Q := by
  obtain ⟨hR, hqo, hq, hp68, hpo, hro, heo⟩ := h.R
  have hq5 := hq.1
  have hqo5 := hqo.1
  have hp12 := hro.1
  have hN := h.2.2.1.1.1
  have hN8 := h.2.2.1.1.2
  have hm := mz_u1 hok
  obtain ⟨-, -, had, hx, -, hy, hz⟩ := mz_un (k := 99) hok
  have hrow := h.row hm
  rw [hcm] at hrow had hx hy hz
  unfold mz_ad at had
  dsimp only at had hx hy hz
  have h0 : a.AI 2 3 0 Z.S.at = 6 := hrow.1 0 (by decide) (by decide)
  have hat := h.2.2.2.1.2.1.1
  have hix := ix_of (w := Z.S.at) (m := 800) (by omega) (by omega)
  have hxk : mz_ok tb N 100 1 x := mz_dn (hx (by decide)).2
  have hyk : mz_ok tb N 100 0 y := mz_dn (hy (by decide)).2
  have hyN := mz_u1 hyk
  refine b_80_18 _ _ _ (by first | (exact hc_o (by first | assumption | (exact ⟨by decide, rfl⟩))) | assumption | (exact (hc_far (by omega)).trans (by assumption))) (by omega) (by first | rfl | assumption) (by first | (exact hc_o (by first | assumption | (exact ⟨by decide, rfl⟩))) | assumption | (exact (hc_far (by omega)).trans (by assumption))) (by omega) (by first | rfl | assumption) (by first | (exact hc_o (by first | assumption | (exact ⟨by decide, rfl⟩))) | assumption | (exact (hc_far (by omega)).trans (by assumption))) (by omega) (by first | rfl | assumption) (by first | (exact hc_o (by first | assumption | (exact ⟨by decide, rfl⟩))) | assumption | (exact (hc_far (by omega)).trans (by assumption))) (by omega) ?_
  rw [hR, hat]
  refine ct_kind hn hN hN8 hm h0 ?_
  refine b_80_37 (t7 := 162) _ _ _ (by decide +kernel) ?_
  refine b_80_162 _ _ _ (by first | (exact hc_o (by first | assumption | (exact ⟨by decide, rfl⟩))) | assumption | (exact (hc_far (by omega)).trans (by assumption))) (by omega) ?_
  refine cm_let (e := e + 1) hn h hfl hS hm hcm (by omega) (had.1 (by decide)) hxk (fun r1 l1 a1 c1 f1 e1 g1 k1 => ?_)
  refine b_80_167 _ _ _ ?_
  have hst : mv_s1 (mv_E tb Z.S lo hi 100) lo hi Z (5, A, B, D, v, x, y, z, u) = (match (mv_E tb Z.S lo hi 100).1 x with | none => .error 6 | some w => .ok (some (mv_let A y Z.S.at Z w))) := rfl
  cases hv : (mv_E tb Z.S lo hi 100).1 x with
  | none =>
    rw [hv] at hst c1
    have hl : l1 = true := c1
    subst hl
    refine cm_221l hn hpo hro g1 (K.2.2 6 _ 1 hst (f1.sI (Or.inr (Or.inr (Or.inr ⟨rfl, rfl, rfl⟩)))) ?_)
    rw [I_at]
    rfl
  | some w =>
    rw [hv] at hst c1
    have hl : l1 = false ∧ r1 = w := c1
    obtain ⟨hl, rfl⟩ := hl
    subst hl
    exact cm_221 hn hpo hro g1 (K.2.1 _ a1 _ _ hst f1 k1 (e1.trans hel) g1)
theorem cm_s6 {A B D x y z : Nat} {v : Int64} {u : Nat × Nat} (hn : 575 ≤ n) (h : cM a p q N tb lo hi Z) (hfl : a.I 10 (p + 12) 4 = 0) (hel : a.I 7 p 6 = 0) (hS : mv_ok Z.S) (hok : mz_ok tb N 100 0 Z.S.at) (h01 : l2 = 0 ∨ l2 = 1) (hcm : tb Z.S.at = (6, A, B, D, v, x, y, z, u)) (K : cKs n sl f0 Q (e + 112) a p q N tb lo hi Z i l2 (mv_s1 (mv_E tb Z.S lo hi 100) lo hi Z (6, A, B, D, v, x, y, z, u))) : mi_W (e + 112) 80 18 [some (.ref p), some (.int l2), some (.int (Int32.ofNat i)), o4, o5] [] (n, sl, hc a f0) Q := by
  obtain ⟨hR, hqo, hq, hp68, hpo, hro, heo⟩ := h.R
  have hq5 := hq.1
  have hqo5 := hqo.1
  have hp12 := hro.1
  have hN := h.2.2.1.1.1
  have hN8 := h.2.2.1.1.2
  have hm := mz_u1 hok
  obtain ⟨-, -, had, hx, -, hy, hz⟩ := mz_un (k := 99) hok
  have hrow := h.row hm
  rw [hcm] at hrow had hx hy hz
  unfold mz_ad at had
  dsimp only at had hx hy hz
  have h0 : a.AI 2 3 0 Z.S.at = 7 := hrow.1 0 (by decide) (by decide)
  have hat := h.2.2.2.1.2.1.1
  have hix := ix_of (w := Z.S.at) (m := 800) (by omega) (by omega)
  have hxk : mz_ok tb N 100 2 x := mz_dn (hx (by decide)).2
  have hyk : mz_ok tb N 100 0 y := mz_dn (hy (by decide)).2
  have hyN := mz_u1 hyk
  refine b_80_18 _ _ _ (by first | (exact hc_o (by first | assumption | (exact ⟨by decide, rfl⟩))) | assumption | (exact (hc_far (by omega)).trans (by assumption))) (by omega) (by first | rfl | assumption) (by first | (exact hc_o (by first | assumption | (exact ⟨by decide, rfl⟩))) | assumption | (exact (hc_far (by omega)).trans (by assumption))) (by omega) (by first | rfl | assumption) (by first | (exact hc_o (by first | assumption | (exact ⟨by decide, rfl⟩))) | assumption | (exact (hc_far (by omega)).trans (by assumption))) (by omega) (by first | rfl | assumption) (by first | (exact hc_o (by first | assumption | (exact ⟨by decide, rfl⟩))) | assumption | (exact (hc_far (by omega)).trans (by assumption))) (by omega) ?_
  rw [hR, hat]
  refine ct_kind hn hN hN8 hm h0 ?_
  refine b_80_37 (t7 := 170) _ _ _ (by decide +kernel) ?_
  refine b_80_170 _ _ _ _ _ _ (by first | (exact hc_o (by first | assumption | (exact ⟨by decide, rfl⟩))) | assumption | (exact (hc_far (by omega)).trans (by assumption))) (by omega) (by first | rfl | assumption) (by first | (exact hc_o (by first | assumption | (exact ⟨by decide, rfl⟩))) | assumption | (exact (hc_far (by omega)).trans (by assumption))) (by omega) (by first | rfl | assumption) (by first | (exact hc_o (by first | assumption | (exact ⟨by decide, rfl⟩))) | assumption | (exact (hc_far (by omega)).trans (by assumption))) (by omega) (by first | rfl | assumption) (by first | (exact hc_ai (by omega) (by first | assumption | (exact (ht9 (by assumption)).2.1) | (exact (ht9 (by assumption)).2.2.1) | (exact (ht9 (by assumption)).2.2.2) | rfl) (by decide)) | assumption | (exact (hc_far (by omega)).trans (by assumption))) (Or.inl (by omega)) (by first | assumption | (exact ix_of (by omega) (by omega)) | (exact ⟨by decide, rfl, by decide⟩)) (by first | (exact hc_o (by first | assumption | (exact ⟨by decide, rfl⟩))) | assumption | (exact (hc_far (by omega)).trans (by assumption))) (by omega) ?_
  rw [show a.AI 2 3 1 Z.S.at = Int32.ofNat x from hrow.1 1 (by decide) (by decide)]
  refine (cv_E hn (h.rk hfl hS) 100 (Nat.le_refl _)).2 x 1 _ false _ (by omega) (by omega) hxk (fun r1 l1 _ c1 => ?_)
  have k1 := h.cvL (l := l1)
  have f1 := (cMf.re (p := p) (q := q) (a := a)).cvL (l := l1)
  have g1 := cvL_fl (l := l1) hfl
  have e1 := (cvL_er (p := p) (a := a) (l := l1)).trans hel
  generalize cvL (p + 12) a l1 = a1 at *
  refine b_80_187 _ _ _ ?_ ?_
  · intro z187
    obtain ⟨a2, f2, e2, g2, k2e, k2⟩ : ∃ a2, cMf p q a a2 ∧ a2.I 7 p 6 = 0 ∧ a2.I 10 (p + 12) 4 = cfl l1 ∧ hc a2 f0 = hc a1 f0 ∧ cM a2 p q N tb lo hi (if decide (¬ r1 = 0) = true then Z else Z.wn 5 Z.S.at) := ⟨a1, f1, e1, g1, rfl, by rw [if_pos (decide_eq_true z187)]; exact k1⟩
    rw [← k2e]
    have hR2 := k2.R
    have hqo2 := hR2.2.1
    have hqo25 := hqo2.1
    have hrow2 := k2.row hm
    rw [hcm] at hrow2
    have h32 : a2.AI 2 3 3 Z.S.at = Int32.ofNat y := hrow2.1 3 (by decide) (by decide)
    refine b_80_199 _ _ _ _ _ _ (by first | (exact hc_o (by first | assumption | (exact ⟨by decide, rfl⟩))) | assumption | (exact (hc_far (by omega)).trans (by assumption))) (by omega) (by first | rfl | assumption) (by first | (exact hc_o (by first | assumption | (exact ⟨by decide, rfl⟩))) | assumption | (exact (hc_far (by omega)).trans (by assumption))) (by omega) (by first | rfl | assumption) (by first | (exact hc_o (by first | assumption | (exact ⟨by decide, rfl⟩))) | assumption | (exact (hc_far (by omega)).trans (by assumption))) (by omega) (by first | rfl | assumption) (by first | (exact hc_ai (by omega) (by first | assumption | (exact (ht9 (by assumption)).2.1) | (exact (ht9 (by assumption)).2.2.1) | (exact (ht9 (by assumption)).2.2.2) | rfl) (by decide)) | assumption | (exact (hc_far (by omega)).trans (by assumption))) (Or.inl (by omega)) (by first | assumption | (exact ix_of (by omega) (by omega)) | (exact ⟨by decide, rfl, by decide⟩)) (by first | (exact hc_o (by first | assumption | (exact ⟨by decide, rfl⟩))) | assumption | (exact (hc_far (by omega)).trans (by assumption))) (by omega) (Nat.le_of_ble_eq_true rfl) ?_
    refine hw_W (hw_I (by first | assumption | (exact ⟨by decide, rfl⟩)) (by decide)) ?_
    rw [hR2.1, h32]
    have hst : mv_s1 (mv_E tb Z.S lo hi 100) lo hi Z (6, A, B, D, v, x, y, z, u) = (match (mv_E tb Z.S lo hi 100).2 x with | none => .error 6 | some b => .ok (some (mv_ass y Z.S.at Z b))) := rfl
    have k3 := k2.go (i := y) (by omega)
    have f3 := f2.sI (c := 9) (r := q) (k := 0) (v := Int32.ofNat y) (Or.inl ⟨rfl, rfl⟩)
    have g3 : (a2.sI 9 q 0 (Int32.ofNat y)).I 10 (p + 12) 4 = cfl l1 := g2
    have e3 : (a2.sI 9 q 0 (Int32.ofNat y)).I 7 p 6 = 0 := e2
    generalize a2.sI 9 q 0 (Int32.ofNat y) = a3 at *
    cases hv : (mv_E tb Z.S lo hi 100).2 x with
    | none =>
      rw [hv] at hst c1
      have hl : l1 = true := c1
      subst hl
      refine cm_221l hn hpo hro g3 (K.2.2 6 _ 1 hst (f3.sI (Or.inr (Or.inr (Or.inr ⟨rfl, rfl, rfl⟩)))) ?_)
      rw [I_at]
      rfl
    | some b =>
      rw [hv] at hst c1
      have hl : l1 = false ∧ r1 = cvt b := c1
      obtain ⟨hl, hr⟩ := hl
      subst hl
      have hb : decide (¬ r1 = 0) = b := by
        rw [hr]
        cases b <;> decide
      rw [hb] at k3
      exact cm_221 hn hpo hro g3 (K.2.1 _ a3 _ _ hst f3 k3 e3 g3)
  · intro z187
    refine b_80_190 _ _ _ (by first | (exact hc_o (by first | assumption | (exact ⟨by decide, rfl⟩))) | assumption | (exact (hc_far (by omega)).trans (by assumption))) (by omega) (by first | rfl | assumption) (by first | (exact hc_o (by first | assumption | (exact ⟨by decide, rfl⟩))) | assumption | (exact (hc_far (by omega)).trans (by assumption))) (by omega) ?_
    refine ce_warn (x := 5) hn k1 (fun a2 f2' e2' g2' k2' => ?_)
    have f2 := f1.trans f2'
    have e2 := e2'.trans e1
    have g2 := g2'.trans g1
    have k2 : cM a2 p q N tb lo hi (if decide (¬ r1 = 0) = true then Z else Z.wn 5 Z.S.at) := by rw [if_neg (fun h => z187 (of_decide_eq_true h))]; exact k2'
    have hR2 := k2.R
    have hqo2 := hR2.2.1
    have hqo25 := hqo2.1
    have hrow2 := k2.row hm
    rw [hcm] at hrow2
    have h32 : a2.AI 2 3 3 Z.S.at = Int32.ofNat y := hrow2.1 3 (by decide) (by decide)
    refine b_80_199 _ _ _ _ _ _ (by first | (exact hc_o (by first | assumption | (exact ⟨by decide, rfl⟩))) | assumption | (exact (hc_far (by omega)).trans (by assumption))) (by omega) (by first | rfl | assumption) (by first | (exact hc_o (by first | assumption | (exact ⟨by decide, rfl⟩))) | assumption | (exact (hc_far (by omega)).trans (by assumption))) (by omega) (by first | rfl | assumption) (by first | (exact hc_o (by first | assumption | (exact ⟨by decide, rfl⟩))) | assumption | (exact (hc_far (by omega)).trans (by assumption))) (by omega) (by first | rfl | assumption) (by first | (exact hc_ai (by omega) (by first | assumption | (exact (ht9 (by assumption)).2.1) | (exact (ht9 (by assumption)).2.2.1) | (exact (ht9 (by assumption)).2.2.2) | rfl) (by decide)) | assumption | (exact (hc_far (by omega)).trans (by assumption))) (Or.inl (by omega)) (by first | assumption | (exact ix_of (by omega) (by omega)) | (exact ⟨by decide, rfl, by decide⟩)) (by first | (exact hc_o (by first | assumption | (exact ⟨by decide, rfl⟩))) | assumption | (exact (hc_far (by omega)).trans (by assumption))) (by omega) (Nat.le_of_ble_eq_true rfl) ?_
    refine hw_W (hw_I (by first | assumption | (exact ⟨by decide, rfl⟩)) (by decide)) ?_
    rw [hR2.1, h32]
    have hst : mv_s1 (mv_E tb Z.S lo hi 100) lo hi Z (6, A, B, D, v, x, y, z, u) = (match (mv_E tb Z.S lo hi 100).2 x with | none => .error 6 | some b => .ok (some (mv_ass y Z.S.at Z b))) := rfl
    have k3 := k2.go (i := y) (by omega)
    have f3 := f2.sI (c := 9) (r := q) (k := 0) (v := Int32.ofNat y) (Or.inl ⟨rfl, rfl⟩)
    have g3 : (a2.sI 9 q 0 (Int32.ofNat y)).I 10 (p + 12) 4 = cfl l1 := g2
    have e3 : (a2.sI 9 q 0 (Int32.ofNat y)).I 7 p 6 = 0 := e2
    generalize a2.sI 9 q 0 (Int32.ofNat y) = a3 at *
    cases hv : (mv_E tb Z.S lo hi 100).2 x with
    | none =>
      rw [hv] at hst c1
      have hl : l1 = true := c1
      subst hl
      refine cm_221l hn hpo hro g3 (K.2.2 6 _ 1 hst (f3.sI (Or.inr (Or.inr (Or.inr ⟨rfl, rfl, rfl⟩)))) ?_)
      rw [I_at]
      rfl
    | some b =>
      rw [hv] at hst c1
      have hl : l1 = false ∧ r1 = cvt b := c1
      obtain ⟨hl, hr⟩ := hl
      subst hl
      have hb : decide (¬ r1 = 0) = b := by
        rw [hr]
        cases b <;> decide
      rw [hb] at k3
      exact cm_221 hn hpo hro g3 (K.2.1 _ a3 _ _ hst f3 k3 e3 g3)
end
