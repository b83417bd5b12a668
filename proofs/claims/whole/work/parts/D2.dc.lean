/-! the first object: reckoning -/
section
variable {d n sl N : Nat} {a : mh_A} {f0 : Nat → mi_C} {Q : (Option Value ⊕ Nat) → mi_H → Prop} {p k m : Nat} {u w x : Int64} {l : Bool} {tb : Nat → ms_N} {S : mv_S} {lo hi : Int64}
theorem cvL_AI : (cvL p a l).AI = a.AI := by cases l <;> rfl
theorem cvL_AL : (cvL p a l).AL = a.AL := by cases l <;> rfl
theorem mv_abs (h : mv_in x) : (if x < 0 then -x else x).toInt = (x.toInt.natAbs : Int) := by
  split
  · rename_i h0
    rw [mv_neg h]
    rw [Int64.lt_iff_toInt_lt, show (0 : Int64).toInt = 0 from rfl] at h0
    omega
  · rename_i h0
    rw [Int64.lt_iff_toInt_lt, show (0 : Int64).toInt = 0 from rfl] at h0
    omega
theorem mv_pr (hu : mv_in u) (hw : mv_in w) (h0 : ¬ u = 0) : (if w < 0 then -w else w) ≤ 4611686018427387904 / (if u < 0 then -u else u) ↔ (-4611686018427387904 ≤ u.toInt * w.toInt ∧ u.toInt * w.toInt ≤ 4611686018427387904) := by
  have hA : 0 < u.toInt.natAbs := by
    refine Nat.pos_of_ne_zero (fun e => h0 (Int64.toInt_inj.mp ?_))
    rw [Int.natAbs_eq_zero.mp e]
    rfl
  rw [Int64.le_iff_toInt_le, Int64.toInt_div_of_ne_left _ _ (by decide), mv_abs hu, mv_abs hw, show (4611686018427387904 : Int64).toInt = ((4611686018427387904 : Nat) : Int) from rfl, ← Int.ofNat_tdiv, Int.ofNat_le, Nat.le_div_iff_mul_le hA]
  have e := Int.natAbs_mul u.toInt w.toInt
  rw [Nat.mul_comm] at e
  generalize u.toInt * w.toInt = P at *
  generalize w.toInt.natAbs * u.toInt.natAbs = R at *
  omega
theorem mv_nz (h : ¬ u = 0) : ¬ (if u < 0 then -u else u) = 0 := by
  split
  · intro e
    exact h (by rw [← Int64.neg_neg (a := u), e]; rfl)
  · exact h
theorem cv_prod (hn : 575 ≤ n) (hp : mh_o p 10) (K : ∀ r l', (l = true → l' = true) → (l = false → mv_in u → mv_in w → cvo id (mv_mul u w) false r l') → Q (.inl (some (.long r))) (n, sl, hc (cvL p a l') f0)) : mi_W (d + 1) 95 0 (mi_en 5 [.ref p, .long u, .long w]) [] (n, sl, hc (cvL p a l) f0) Q := by
  have hp5 := hp.1
  refine b_95_0 _ _ _ ?_ ?_
  · intro z0
    have hu : ¬ u = 0 := fun h => z0 (lg_e.mpr h)
    have hnz := mv_nz hu
    refine b_95_8 _ _ _ ?_
    refine cv_abs ?_
    refine b_95_12 _ _ _ ?_
    refine cv_abs ?_
    refine b_95_19 _ _ _ (by first | assumption | (exact mL_get (by decide)) | (rw [mL_len]; decide) | (simp only [mL_set]; exact mL_get (by decide)) | (simp only [mL_set, mL_len]; decide) | (exact va_eq) | (exact (va_ne (by omega)).trans (by assumption)) | (exact (va_ne (by omega)).trans va_eq) | (exact (va_ne (by omega)).trans ((va_ne (by omega)).trans (by assumption))) | (exact (va_ne (by omega)).trans ((va_ne (by omega)).trans ((va_ne (by omega)).trans (by assumption)))) | rfl | (exact Or.inl rfl) | (exact Or.inr rfl) | omega | (exact Nat.le_of_ble_eq_true rfl) | decide | (exact ⟨by decide, rfl, by decide⟩)) ?_ ?_
    · intro z19
      refine b_95_31 _ _ _ ?_
      refine K (u * w) l (fun e => e) (fun e h1 h2 => ?_)
      unfold mv_mul
      rw [if_pos ((mv_pr h1 h2 hu).mp (lg_le.mp z19))]
      exact ⟨e, rfl⟩
    · intro z19
      refine b_95_24 _ _ _ (by first | (exact hc_o (by first | assumption | (exact ⟨by decide, rfl⟩))) | assumption | (exact (hc_far (by omega)).trans (by assumption))) (by omega) (Nat.le_of_ble_eq_true rfl) (by first | assumption | (exact mL_get (by decide)) | (rw [mL_len]; decide) | (simp only [mL_set]; exact mL_get (by decide)) | (simp only [mL_set, mL_len]; decide) | (exact va_eq) | (exact (va_ne (by omega)).trans (by assumption)) | (exact (va_ne (by omega)).trans va_eq) | (exact (va_ne (by omega)).trans ((va_ne (by omega)).trans (by assumption))) | (exact (va_ne (by omega)).trans ((va_ne (by omega)).trans ((va_ne (by omega)).trans (by assumption)))) | rfl | (exact Or.inl rfl) | (exact Or.inr rfl) | omega | (exact Nat.le_of_ble_eq_true rfl) | decide | (exact ⟨by decide, rfl, by decide⟩)) ?_
      refine hw_Q (hw_I (by first | assumption | (exact ⟨by decide, rfl⟩)) (by decide)) ?_
      rw [cvL_t]
      refine K 0 true (fun _ => rfl) (fun _ h1 h2 => ?_)
      unfold mv_mul
      rw [if_neg (fun h => z19 (lg_le.mpr ((mv_pr h1 h2 hu).mpr h)))]
      rfl
  · intro z0
    refine b_95_6 _ _ _ ?_
    have hu := lg_e.mp (Classical.not_not.mp z0)
    refine K 0 l (fun e => e) (fun e _ _ => ?_)
    subst hu
    unfold mv_mul
    rw [show (0 : Int64).toInt = 0 from rfl, Int.zero_mul, if_pos ⟨by decide, by decide⟩]
    exact ⟨e, Int64.zero_mul.symm⟩
theorem mz_so1 : ∀ o : Fin 33, mz_so o.1 = 1 → (o.1 = 10 ∨ o.1 = 11 ∨ o.1 = 12 ∨ o.1 = 13 ∨ o.1 = 14 ∨ o.1 = 15 ∨ o.1 = 16 ∨ o.1 = 17 ∨ o.1 = 18 ∨ o.1 = 19 ∨ o.1 = 20 ∨ o.1 = 21) := by decide +kernel
theorem mz_so2 : ∀ o : Fin 33, mz_so o.1 = 2 → (o.1 = 22 ∨ o.1 = 23 ∨ o.1 = 24 ∨ o.1 = 25 ∨ o.1 = 26 ∨ o.1 = 27 ∨ o.1 = 28 ∨ o.1 = 29 ∨ o.1 = 30 ∨ o.1 = 31 ∨ o.1 = 32) := by decide +kernel
theorem mz_so33 {o s : Nat} (h : mz_so o = s) (hs : ¬ s = 9) : o < 33 := by
  refine Nat.lt_of_not_le (fun hh => hs ?_)
  unfold mz_so at h
  rw [List.getD_eq_getElem?_getD, List.getElem?_eq_none (by simpa using hh)] at h
  exact h.symm
def cvt (b : Bool) : Int32 := if b = true then 1 else 0
/-- a reckoner in the first object -/
def cRk (a : mh_A) (p N : Nat) (tb : Nat → ms_N) (S : mv_S) (lo hi : Int64) : Prop := mh_o p 10 ∧ cSt a (a.R 10 p) S ∧ a.L 10 p 2 = lo ∧ a.L 10 p 3 = hi ∧ a.I 10 p 4 = 0 ∧ (a.I 2 3 11 = Int32.ofNat N ∧ N ≤ 800) ∧ crg 0 N a tb ∧ mv_ok S ∧ mv_tok tb
def cIV (n sl : Nat) (f0 : Nat → mi_C) (a : mh_A) (p N : Nat) (tb : Nat → ms_N) (S : mv_S) (lo hi : Int64) (k : Nat) : Prop := ∀ (m t d : Nat) (l : Bool) (Q : (Option Value ⊕ Nat) → mi_H → Prop), k + 3 ≤ d → t + k ≤ 101 → mz_ok tb N k 1 m → (∀ r l', cvo id ((mv_E tb S lo hi k).1 m) l r l' → Q (.inl (some (.long r))) (n, sl, hc (cvL p a l') f0)) → mi_W d 87 0 (mi_en 5 [.ref p, .int (Int32.ofNat m), .int (Int32.ofNat t)]) [] (n, sl, hc (cvL p a l) f0) Q
def cIT (n sl : Nat) (f0 : Nat → mi_C) (a : mh_A) (p N : Nat) (tb : Nat → ms_N) (S : mv_S) (lo hi : Int64) (k : Nat) : Prop := ∀ (m t d : Nat) (l : Bool) (Q : (Option Value ⊕ Nat) → mi_H → Prop), k + 3 ≤ d → t + k ≤ 101 → mz_ok tb N k 2 m → (∀ r l', (r = 0 ∨ r = 1) → cvo cvt ((mv_E tb S lo hi k).2 m) l r l' → Q (.inl (some (.int r))) (n, sl, hc (cvL p a l') f0)) → mi_W d 92 0 (mi_en 6 [.ref p, .int (Int32.ofNat m), .int (Int32.ofNat t)]) [] (n, sl, hc (cvL p a l) f0) Q
theorem cv_vl {t : Nat} (hn : 575 ≤ n) (hp : mh_o p 10) (K : Q (.inl (some (.long 0))) (n, sl, hc (cvL p a true) f0)) : mi_W (d + 1) 87 0 (mi_en 5 [.ref p, .int (Int32.ofNat m), .int (Int32.ofNat t)]) [] (n, sl, hc (cvL p a true) f0) Q := by
  have hp5 := hp.1
  have hfl : (cvL p a true).I 10 p 4 = 1 := by
    show mh_u a.I 10 p 4 1 10 p 4 = 1
    exact mh_u_at
  refine b_87_0 _ _ _ (by first | (exact hc_o (by first | assumption | (exact ⟨by decide, rfl⟩))) | assumption | (exact (hc_far (by omega)).trans (by assumption))) (by omega) (by first | rfl | assumption) ?_ ?_
  · intro z0
    refine b_87_24 _ _ _ ?_
    exact K
  · intro z0
    exact absurd (Classical.not_not.mp z0) (by rw [hfl]; decide)
theorem cv_tl {t : Nat} (hn : 575 ≤ n) (hp : mh_o p 10) (K : Q (.inl (some (.int 0))) (n, sl, hc (cvL p a true) f0)) : mi_W (d + 1) 92 0 (mi_en 6 [.ref p, .int (Int32.ofNat m), .int (Int32.ofNat t)]) [] (n, sl, hc (cvL p a true) f0) Q := by
  have hp5 := hp.1
  have hfl : (cvL p a true).I 10 p 4 = 1 := by
    show mh_u a.I 10 p 4 1 10 p 4 = 1
    exact mh_u_at
  refine b_92_0 _ _ _ (by first | (exact hc_o (by first | assumption | (exact ⟨by decide, rfl⟩))) | assumption | (exact (hc_far (by omega)).trans (by assumption))) (by omega) (by first | rfl | assumption) ?_ ?_
  · intro z0
    refine b_92_24 _ _ _ ?_
    exact K
  · intro z0
    exact absurd (Classical.not_not.mp z0) (by rw [hfl]; decide)
end
