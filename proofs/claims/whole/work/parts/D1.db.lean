/-! the first object: small pieces of reckoning -/
def cbit (b : Int32) (j : Nat) : Prop := ¬ ((b >>> (Int32.ofNat j &&& 31)) &&& 1) = 0
/-- a state of the first object -/
def cSt (a : mh_A) (q : Nat) (S : mv_S) : Prop := mh_o q 9 ∧ (a.I 9 q 0 = Int32.ofNat S.at ∧ S.at ≤ 800) ∧ a.L 9 q 1 = S.tm ∧ (∀ j, j < 32 → a.AL 9 q 2 j = S.ac j) ∧ (∀ j, j < 8 → a.AL 9 q 3 j = (S.ch j).getD 0) ∧ (∀ j, j < 8 → a.AL 9 q 4 j = (S.us j).getD 0) ∧ (∀ j, j < 8 → (cbit (a.I 9 q 5) j ↔ (S.ch j).isSome = true)) ∧ (∀ j, j < 8 → (cbit (a.I 9 q 6) j ↔ (S.us j).isSome = true))
/-- LARGE is told by a flag -/
def cvL (p : Nat) (a : mh_A) : Bool → mh_A
  | true => a.sI 10 p 4 1
  | false => a
section
variable {d n sl N : Nat} {a : mh_A} {f0 : Nat → mi_C} {Q : (Option Value ⊕ Nat) → mi_H → Prop} {p q x t c m : Nat} {u v w : Int64} {l : Bool}
theorem sI2 {c p k : Nat} {v w : Int32} : (a.sI c p k v).sI c p k w = a.sI c p k w := by
  unfold mh_A.sI mh_A.I
  dsimp only
  rw [mh_uu]
theorem cvL_t : (cvL p a l).sI 10 p 4 1 = cvL p a true := by
  cases l with
  | true => exact sI2
  | false => rfl
theorem cv_bal (hn : 575 ≤ n) (hq : mh_o q 9) (hx : x < 8) (ht : t < 4) (K : Q (.inl (some (.long (a.AL 9 q 2 (x * 4 + t))))) (n, sl, hc a f0)) : mi_W d 88 0 (mi_en 4 [.ref q, .int (Int32.ofNat x), .int (Int32.ofNat t)]) [] (n, sl, hc a f0) Q := by
  have hq5 := hq.1
  have e : Int32.ofNat x * 4 + Int32.ofNat t = Int32.ofNat (x * 4 + t) := by
    rw [show (4 : Int32) = Int32.ofNat 4 from rfl, of_mul, of_add']
  have h9 := ht9 hq
  refine b_88_0 _ _ _ ?_ ?_
  · intro z0
    exact absurd z0 (by rw [e]; exact of_nn (by omega))
  · intro z0
    rw [e]
    refine b_88_10 _ _ _ ?_ ?_
    · intro z10
      exact absurd ((i_le (a := 32) rfl rfl (by omega) (by omega)).mp z10) (by omega)
    · intro z10
      refine b_88_16 _ _ _ _ _ _ (by first | (exact hc_o (by first | assumption | (exact ⟨by decide, rfl⟩))) | assumption | (exact (hc_far (by omega)).trans (by assumption))) (by omega) (by first | rfl | assumption) (by first | (exact hc_al (by omega) (by first | assumption | (exact (ht9 (by assumption)).2.1) | (exact (ht9 (by assumption)).2.2.1) | (exact (ht9 (by assumption)).2.2.2) | rfl)) | assumption | (exact (hc_far (by omega)).trans (by assumption))) (by omega) (by first | assumption | (exact ix_of (by omega) (by omega)) | (exact ⟨by decide, rfl, by decide⟩)) ?_
      refine b_88_26 _ _ _ ?_
      exact K
theorem cv_ch (hn : 575 ≤ n) (hq : mh_o q 9) (hx : c < 8) (K : Q (.inl (some (.long (a.AL 9 q 3 c)))) (n, sl, hc a f0)) : mi_W d 89 0 (mi_en 2 [.ref q, .int (Int32.ofNat c)]) [] (n, sl, hc a f0) Q := by
  have h9 := ht9 hq
  have hq5 := hq.1
  refine b_89_0 _ _ _ ?_ ?_
  · intro z0
    exact absurd z0 (of_nn (by omega))
  · intro z0
    refine b_89_4 _ _ _ ?_ ?_
    · intro z4
      exact absurd ((i_le (a := 8) rfl rfl (by omega) (by omega)).mp z4) (by omega)
    · intro z4
      refine b_89_10 _ _ _ _ _ _ (by first | (exact hc_o (by first | assumption | (exact ⟨by decide, rfl⟩))) | assumption | (exact (hc_far (by omega)).trans (by assumption))) (by omega) (by first | rfl | assumption) (by first | (exact hc_al (by omega) (by first | assumption | (exact (ht9 (by assumption)).2.1) | (exact (ht9 (by assumption)).2.2.1) | (exact (ht9 (by assumption)).2.2.2) | rfl)) | assumption | (exact (hc_far (by omega)).trans (by assumption))) (by omega) (by first | assumption | (exact ix_of (by omega) (by omega)) | (exact ⟨by decide, rfl, by decide⟩)) ?_
      refine b_89_20 _ _ _ ?_
      exact K
theorem cv_us (hn : 575 ≤ n) (hq : mh_o q 9) (hx : c < 8) (K : Q (.inl (some (.long (a.AL 9 q 4 c)))) (n, sl, hc a f0)) : mi_W d 90 0 (mi_en 2 [.ref q, .int (Int32.ofNat c)]) [] (n, sl, hc a f0) Q := by
  have h9 := ht9 hq
  have hq5 := hq.1
  refine b_90_0 _ _ _ ?_ ?_
  · intro z0
    exact absurd z0 (of_nn (by omega))
  · intro z0
    refine b_90_4 _ _ _ ?_ ?_
    · intro z4
      exact absurd ((i_le (a := 8) rfl rfl (by omega) (by omega)).mp z4) (by omega)
    · intro z4
      refine b_90_10 _ _ _ _ _ _ (by first | (exact hc_o (by first | assumption | (exact ⟨by decide, rfl⟩))) | assumption | (exact (hc_far (by omega)).trans (by assumption))) (by omega) (by first | rfl | assumption) (by first | (exact hc_al (by omega) (by first | assumption | (exact (ht9 (by assumption)).2.1) | (exact (ht9 (by assumption)).2.2.1) | (exact (ht9 (by assumption)).2.2.2) | rfl)) | assumption | (exact (hc_far (by omega)).trans (by assumption))) (by omega) (by first | assumption | (exact ix_of (by omega) (by omega)) | (exact ⟨by decide, rfl, by decide⟩)) ?_
      refine b_90_20 _ _ _ ?_
      exact K
theorem cv_made (hn : 575 ≤ n) (hq : mh_o q 9) (k1 : cbit (a.I 9 q 5) c → Q (.inl (some (.int 1))) (n, sl, hc a f0)) (k0 : ¬ cbit (a.I 9 q 5) c → Q (.inl (some (.int 0))) (n, sl, hc a f0)) : mi_W d 93 0 (mi_en 2 [.ref q, .int (Int32.ofNat c)]) [] (n, sl, hc a f0) Q := by
  have hq5 := hq.1
  refine b_93_0 _ _ _ (by first | (exact hc_o (by first | assumption | (exact ⟨by decide, rfl⟩))) | assumption | (exact (hc_far (by omega)).trans (by assumption))) (by omega) (by first | rfl | assumption) ?_ ?_
  · intro z0
    refine b_93_15 _ _ _ ?_
    refine b_93_16 _ _ _ (by first | assumption | (exact mL_get (by decide)) | (rw [mL_len]; decide) | (simp only [mL_set]; exact mL_get (by decide)) | (simp only [mL_set, mL_len]; decide) | (exact va_eq) | (exact (va_ne (by omega)).trans (by assumption)) | (exact (va_ne (by omega)).trans va_eq) | (exact (va_ne (by omega)).trans ((va_ne (by omega)).trans (by assumption))) | (exact (va_ne (by omega)).trans ((va_ne (by omega)).trans ((va_ne (by omega)).trans (by assumption)))) | rfl | (exact Or.inl rfl) | (exact Or.inr rfl) | omega | (exact Nat.le_of_ble_eq_true rfl) | decide | (exact ⟨by decide, rfl, by decide⟩)) ?_
    exact k0 (fun h => h z0)
  · intro z0
    refine b_93_11 _ _ _ ?_
    refine b_93_16 _ _ _ (by first | assumption | (exact mL_get (by decide)) | (rw [mL_len]; decide) | (simp only [mL_set]; exact mL_get (by decide)) | (simp only [mL_set, mL_len]; decide) | (exact va_eq) | (exact (va_ne (by omega)).trans (by assumption)) | (exact (va_ne (by omega)).trans va_eq) | (exact (va_ne (by omega)).trans ((va_ne (by omega)).trans (by assumption))) | (exact (va_ne (by omega)).trans ((va_ne (by omega)).trans ((va_ne (by omega)).trans (by assumption)))) | rfl | (exact Or.inl rfl) | (exact Or.inr rfl) | omega | (exact Nat.le_of_ble_eq_true rfl) | decide | (exact ⟨by decide, rfl, by decide⟩)) ?_
    exact k1 z0
theorem cv_used (hn : 575 ≤ n) (hq : mh_o q 9) (k1 : cbit (a.I 9 q 6) c → Q (.inl (some (.int 1))) (n, sl, hc a f0)) (k0 : ¬ cbit (a.I 9 q 6) c → Q (.inl (some (.int 0))) (n, sl, hc a f0)) : mi_W d 103 0 (mi_en 2 [.ref q, .int (Int32.ofNat c)]) [] (n, sl, hc a f0) Q := by
  have hq5 := hq.1
  refine b_103_0 _ _ _ (by first | (exact hc_o (by first | assumption | (exact ⟨by decide, rfl⟩))) | assumption | (exact (hc_far (by omega)).trans (by assumption))) (by omega) (by first | rfl | assumption) ?_ ?_
  · intro z0
    refine b_103_15 _ _ _ ?_
    refine b_103_16 _ _ _ (by first | assumption | (exact mL_get (by decide)) | (rw [mL_len]; decide) | (simp only [mL_set]; exact mL_get (by decide)) | (simp only [mL_set, mL_len]; decide) | (exact va_eq) | (exact (va_ne (by omega)).trans (by assumption)) | (exact (va_ne (by omega)).trans va_eq) | (exact (va_ne (by omega)).trans ((va_ne (by omega)).trans (by assumption))) | (exact (va_ne (by omega)).trans ((va_ne (by omega)).trans ((va_ne (by omega)).trans (by assumption)))) | rfl | (exact Or.inl rfl) | (exact Or.inr rfl) | omega | (exact Nat.le_of_ble_eq_true rfl) | decide | (exact ⟨by decide, rfl, by decide⟩)) ?_
    exact k0 (fun h => h z0)
  · intro z0
    refine b_103_11 _ _ _ ?_
    refine b_103_16 _ _ _ (by first | assumption | (exact mL_get (by decide)) | (rw [mL_len]; decide) | (simp only [mL_set]; exact mL_get (by decide)) | (simp only [mL_set, mL_len]; decide) | (exact va_eq) | (exact (va_ne (by omega)).trans (by assumption)) | (exact (va_ne (by omega)).trans va_eq) | (exact (va_ne (by omega)).trans ((va_ne (by omega)).trans (by assumption))) | (exact (va_ne (by omega)).trans ((va_ne (by omega)).trans ((va_ne (by omega)).trans (by assumption)))) | rfl | (exact Or.inl rfl) | (exact Or.inr rfl) | omega | (exact Nat.le_of_ble_eq_true rfl) | decide | (exact ⟨by decide, rfl, by decide⟩)) ?_
    exact k1 z0
theorem cv_has (hn : 575 ≤ n) (hN : a.I 2 3 11 = Int32.ofNat N) (hN8 : N ≤ 800) (hm : m ≤ 800) (k1 : m < N → Q (.inl (some (.int 1))) (n, sl, hc a f0)) (k0 : ¬ m < N → Q (.inl (some (.int 0))) (n, sl, hc a f0)) : mi_W d 82 0 (mi_en 2 [.ref 3, .int (Int32.ofNat m)]) [] (n, sl, hc a f0) Q := by
  refine b_82_0 _ _ _ ?_ ?_
  · intro z0
    exact absurd z0 (of_nn (by omega))
  · intro z0
    refine b_82_4 _ _ _ (by first | (exact hc_o (by first | assumption | (exact ⟨by decide, rfl⟩))) | assumption | (exact (hc_far (by omega)).trans (by assumption))) (by omega) (by first | rfl | assumption) ?_ ?_
    · intro z4
      refine b_82_16 _ _ _ ?_
      refine b_82_17 _ _ _ (by first | assumption | (exact mL_get (by decide)) | (rw [mL_len]; decide) | (simp only [mL_set]; exact mL_get (by decide)) | (simp only [mL_set, mL_len]; decide) | (exact va_eq) | (exact (va_ne (by omega)).trans (by assumption)) | (exact (va_ne (by omega)).trans va_eq) | (exact (va_ne (by omega)).trans ((va_ne (by omega)).trans (by assumption))) | (exact (va_ne (by omega)).trans ((va_ne (by omega)).trans ((va_ne (by omega)).trans (by assumption)))) | rfl | (exact Or.inl rfl) | (exact Or.inr rfl) | omega | (exact Nat.le_of_ble_eq_true rfl) | decide | (exact ⟨by decide, rfl, by decide⟩)) ?_
      exact k0 (Nat.not_lt.mpr ((i_le hN rfl (by omega) (by omega)).mp z4))
    · intro z4
      refine b_82_12 _ _ _ ?_
      refine b_82_17 _ _ _ (by first | assumption | (exact mL_get (by decide)) | (rw [mL_len]; decide) | (simp only [mL_set]; exact mL_get (by decide)) | (simp only [mL_set, mL_len]; decide) | (exact va_eq) | (exact (va_ne (by omega)).trans (by assumption)) | (exact (va_ne (by omega)).trans va_eq) | (exact (va_ne (by omega)).trans ((va_ne (by omega)).trans (by assumption))) | (exact (va_ne (by omega)).trans ((va_ne (by omega)).trans ((va_ne (by omega)).trans (by assumption)))) | rfl | (exact Or.inl rfl) | (exact Or.inr rfl) | omega | (exact Nat.le_of_ble_eq_true rfl) | decide | (exact ⟨by decide, rfl, by decide⟩)) ?_
      exact k1 (Nat.lt_of_not_le (fun h => z4 ((i_le hN rfl (by omega) (by omega)).mpr h)))
theorem cv_has0 (hn : 575 ≤ n) (k0 : Q (.inl (some (.int 0))) (n, sl, hc a f0)) : mi_W d 82 0 (mi_en 2 [.ref 3, .int (-1)]) [] (n, sl, hc a f0) Q := by
  refine b_82_0 _ _ _ ?_ ?_
  · intro z0
    refine b_82_16 _ _ _ ?_
    refine b_82_17 _ _ _ (by first | assumption | (exact mL_get (by decide)) | (rw [mL_len]; decide) | (simp only [mL_set]; exact mL_get (by decide)) | (simp only [mL_set, mL_len]; decide) | (exact va_eq) | (exact (va_ne (by omega)).trans (by assumption)) | (exact (va_ne (by omega)).trans va_eq) | (exact (va_ne (by omega)).trans ((va_ne (by omega)).trans (by assumption))) | (exact (va_ne (by omega)).trans ((va_ne (by omega)).trans ((va_ne (by omega)).trans (by assumption)))) | rfl | (exact Or.inl rfl) | (exact Or.inr rfl) | omega | (exact Nat.le_of_ble_eq_true rfl) | decide | (exact ⟨by decide, rfl, by decide⟩)) ?_
    exact k0
  · intro z0
    exact absurd (by decide) z0
theorem cv_abs (K : Q (.inl (some (.long (if u < 0 then -u else u)))) (n, sl, hc a f0)) : mi_W d 96 0 (mi_en 2 [.long u]) [] (n, sl, hc a f0) Q := by
  refine b_96_0 _ _ _ ?_ ?_
  · intro z0
    rw [if_neg (lg_ge.mp z0)] at K
    refine b_96_11 _ _ _ ?_
    refine b_96_12 _ _ _ ?_
    exact K
  · intro z0
    rw [if_pos (Classical.not_not.mp (fun h => z0 (lg_ge.mpr h)))] at K
    refine b_96_6 _ _ _ ?_
    refine b_96_12 _ _ _ ?_
    exact K
theorem cv_bnd (hn : 575 ≤ n) (hp : mh_o p 10) (K : ∀ r l', cvo id (mv_fit v) l r l' → Q (.inl (some (.long r))) (n, sl, hc (cvL p a l') f0)) : mi_W d 91 0 (mi_en 3 [.ref p, .long v]) [] (n, sl, hc (cvL p a l) f0) Q := by
  have hp5 := hp.1
  have kb : ¬ mv_in v → ∀ r, Q (.inl (some (.long r))) (n, sl, hc (cvL p a true) f0) := by
    intro h r
    refine K r true ?_
    unfold mv_fit
    rw [if_neg h]
    cases l <;> rfl
  have kg : mv_in v → Q (.inl (some (.long v))) (n, sl, hc (cvL p a l) f0) := by
    intro h
    refine K v l ?_
    unfold mv_fit
    rw [if_pos h]
    cases l
    · exact ⟨rfl, rfl⟩
    · rfl
  refine b_91_0 _ _ _ ?_ ?_
  · intro z0
    have hb : ¬ mv_in v := fun h => absurd (lg_gt.mp z0) (Int64.not_lt.mpr (mv_in_i.mp h).2)
    refine b_91_16 _ _ _ (by first | (exact hc_o (by first | assumption | (exact ⟨by decide, rfl⟩))) | assumption | (exact (hc_far (by omega)).trans (by assumption))) (by omega) (Nat.le_of_ble_eq_true rfl) (by first | assumption | (exact mL_get (by decide)) | (rw [mL_len]; decide) | (simp only [mL_set]; exact mL_get (by decide)) | (simp only [mL_set, mL_len]; decide) | (exact va_eq) | (exact (va_ne (by omega)).trans (by assumption)) | (exact (va_ne (by omega)).trans va_eq) | (exact (va_ne (by omega)).trans ((va_ne (by omega)).trans (by assumption))) | (exact (va_ne (by omega)).trans ((va_ne (by omega)).trans ((va_ne (by omega)).trans (by assumption)))) | rfl | (exact Or.inl rfl) | (exact Or.inr rfl) | omega | (exact Nat.le_of_ble_eq_true rfl) | decide | (exact ⟨by decide, rfl, by decide⟩)) ?_
    refine hw_Q (hw_I (by first | assumption | (exact ⟨by decide, rfl⟩)) (by decide)) ?_
    rw [cvL_t]
    exact kb hb 0
  · intro z0
    refine b_91_8 _ _ _ ?_ ?_
    · intro z8
      refine b_91_23 _ _ _ ?_
      exact kg (mv_in_i.mpr ⟨Int64.not_lt.mp (lg_ge.mp z8), Int64.not_lt.mp (fun h => z0 (lg_gt.mpr h))⟩)
    · intro z8
      have hb : ¬ mv_in v := fun h => z8 (lg_ge.mpr (Int64.not_lt.mpr (mv_in_i.mp h).1))
      refine b_91_16 _ _ _ (by first | (exact hc_o (by first | assumption | (exact ⟨by decide, rfl⟩))) | assumption | (exact (hc_far (by omega)).trans (by assumption))) (by omega) (Nat.le_of_ble_eq_true rfl) (by first | assumption | (exact mL_get (by decide)) | (rw [mL_len]; decide) | (simp only [mL_set]; exact mL_get (by decide)) | (simp only [mL_set, mL_len]; decide) | (exact va_eq) | (exact (va_ne (by omega)).trans (by assumption)) | (exact (va_ne (by omega)).trans va_eq) | (exact (va_ne (by omega)).trans ((va_ne (by omega)).trans (by assumption))) | (exact (va_ne (by omega)).trans ((va_ne (by omega)).trans ((va_ne (by omega)).trans (by assumption)))) | rfl | (exact Or.inl rfl) | (exact Or.inr rfl) | omega | (exact Nat.le_of_ble_eq_true rfl) | decide | (exact ⟨by decide, rfl, by decide⟩)) ?_
      refine hw_Q (hw_I (by first | assumption | (exact ⟨by decide, rfl⟩)) (by decide)) ?_
      rw [cvL_t]
      exact kb hb 0
theorem cv_quo (K : Q (.inl (some (.long (if w = 0 then 0 else u / w)))) (n, sl, hc a f0)) : mi_W d 97 0 (mi_en 4 [.long u, .long w]) [] (n, sl, hc a f0) Q := by
  refine b_97_0 _ _ _ ?_ ?_
  · intro z0
    have hw : ¬ w = 0 := fun h => z0 (lg_e.mpr h)
    rw [if_neg hw] at K
    refine b_97_10 _ _ _ (by first | assumption | (exact mL_get (by decide)) | (rw [mL_len]; decide) | (simp only [mL_set]; exact mL_get (by decide)) | (simp only [mL_set, mL_len]; decide) | (exact va_eq) | (exact (va_ne (by omega)).trans (by assumption)) | (exact (va_ne (by omega)).trans va_eq) | (exact (va_ne (by omega)).trans ((va_ne (by omega)).trans (by assumption))) | (exact (va_ne (by omega)).trans ((va_ne (by omega)).trans ((va_ne (by omega)).trans (by assumption)))) | rfl | (exact Or.inl rfl) | (exact Or.inr rfl) | omega | (exact Nat.le_of_ble_eq_true rfl) | decide | (exact ⟨by decide, rfl, by decide⟩)) ?_
    refine b_97_13 _ _ _ ?_
    exact K
  · intro z0
    rw [if_pos (lg_e.mp (Classical.not_not.mp z0))] at K
    refine b_97_6 _ _ _ ?_
    refine b_97_13 _ _ _ ?_
    exact K
theorem cv_cmp {op : Nat} (ho : op = 28 ∨ op = 29 ∨ op = 30 ∨ op = 31 ∨ op = 32) (K : Q (.inl (some (.int (if mv_cmp op u w = true then 1 else 0)))) (n, sl, hc a f0)) : mi_W d 94 0 (mi_en 5 [.int (Int32.ofNat (cz_k.getD op 0)), .long u, .long w]) [] (n, sl, hc a f0) Q := by
  have k1 : mv_cmp op u w = true → Q (.inl (some (.int 1))) (n, sl, hc a f0) := fun h => by
    rw [if_pos h] at K
    exact K
  have k0 : ¬ mv_cmp op u w = true → Q (.inl (some (.int 0))) (n, sl, hc a f0) := fun h => by
    rw [if_neg h] at K
    exact K
  rcases ho with rfl | rfl | rfl | rfl | rfl
  · have hk : (Int32.ofNat (cz_k.getD 28 0)) = 35 := rfl
    refine b_94_0 (t4 := 68) _ _ _ (by rw [hk]; decide +kernel) ?_
    refine b_94_68 _ _ _ ?_ ?_
    · intro z68
      refine b_94_78 _ _ _ ?_
      refine b_94_79 _ _ _ (by first | assumption | (exact mL_get (by decide)) | (rw [mL_len]; decide) | (simp only [mL_set]; exact mL_get (by decide)) | (simp only [mL_set, mL_len]; decide) | (exact va_eq) | (exact (va_ne (by omega)).trans (by assumption)) | (exact (va_ne (by omega)).trans va_eq) | (exact (va_ne (by omega)).trans ((va_ne (by omega)).trans (by assumption))) | (exact (va_ne (by omega)).trans ((va_ne (by omega)).trans ((va_ne (by omega)).trans (by assumption)))) | rfl | (exact Or.inl rfl) | (exact Or.inr rfl) | omega | (exact Nat.le_of_ble_eq_true rfl) | decide | (exact ⟨by decide, rfl, by decide⟩)) ?_
      exact k0 (fun e => (fun h => absurd (lg_lt.mp z68) (Int64.not_lt.mpr h)) (of_decide_eq_true (p := w ≤ u) e))
    · intro z68
      refine b_94_74 _ _ _ ?_
      refine b_94_79 _ _ _ (by first | assumption | (exact mL_get (by decide)) | (rw [mL_len]; decide) | (simp only [mL_set]; exact mL_get (by decide)) | (simp only [mL_set, mL_len]; decide) | (exact va_eq) | (exact (va_ne (by omega)).trans (by assumption)) | (exact (va_ne (by omega)).trans va_eq) | (exact (va_ne (by omega)).trans ((va_ne (by omega)).trans (by assumption))) | (exact (va_ne (by omega)).trans ((va_ne (by omega)).trans ((va_ne (by omega)).trans (by assumption)))) | rfl | (exact Or.inl rfl) | (exact Or.inr rfl) | omega | (exact Nat.le_of_ble_eq_true rfl) | decide | (exact ⟨by decide, rfl, by decide⟩)) ?_
      exact k1 (decide_eq_true (p := w ≤ u) (Classical.not_not.mp (fun h => z68 (lg_lt.mpr (Int64.not_le.mp h)))))
  · have hk : (Int32.ofNat (cz_k.getD 29 0)) = 34 := rfl
    refine b_94_0 (t4 := 56) _ _ _ (by rw [hk]; decide +kernel) ?_
    refine b_94_56 _ _ _ ?_ ?_
    · intro z56
      refine b_94_66 _ _ _ ?_
      refine b_94_67 _ _ _ (by first | assumption | (exact mL_get (by decide)) | (rw [mL_len]; decide) | (simp only [mL_set]; exact mL_get (by decide)) | (simp only [mL_set, mL_len]; decide) | (exact va_eq) | (exact (va_ne (by omega)).trans (by assumption)) | (exact (va_ne (by omega)).trans va_eq) | (exact (va_ne (by omega)).trans ((va_ne (by omega)).trans (by assumption))) | (exact (va_ne (by omega)).trans ((va_ne (by omega)).trans ((va_ne (by omega)).trans (by assumption)))) | rfl | (exact Or.inl rfl) | (exact Or.inr rfl) | omega | (exact Nat.le_of_ble_eq_true rfl) | decide | (exact ⟨by decide, rfl, by decide⟩)) ?_
      exact k0 (fun e => (fun h => absurd (lg_le.mp z56) (Int64.not_le.mpr h)) (of_decide_eq_true (p := w < u) e))
    · intro z56
      refine b_94_62 _ _ _ ?_
      refine b_94_67 _ _ _ (by first | assumption | (exact mL_get (by decide)) | (rw [mL_len]; decide) | (simp only [mL_set]; exact mL_get (by decide)) | (simp only [mL_set, mL_len]; decide) | (exact va_eq) | (exact (va_ne (by omega)).trans (by assumption)) | (exact (va_ne (by omega)).trans va_eq) | (exact (va_ne (by omega)).trans ((va_ne (by omega)).trans (by assumption))) | (exact (va_ne (by omega)).trans ((va_ne (by omega)).trans ((va_ne (by omega)).trans (by assumption)))) | rfl | (exact Or.inl rfl) | (exact Or.inr rfl) | omega | (exact Nat.le_of_ble_eq_true rfl) | decide | (exact ⟨by decide, rfl, by decide⟩)) ?_
      exact k1 (decide_eq_true (p := w < u) (Classical.not_not.mp (fun h => z56 (lg_le.mpr (Int64.not_lt.mp h)))))
  · have hk : (Int32.ofNat (cz_k.getD 30 0)) = 33 := rfl
    refine b_94_0 (t4 := 44) _ _ _ (by rw [hk]; decide +kernel) ?_
    refine b_94_44 _ _ _ ?_ ?_
    · intro z44
      refine b_94_54 _ _ _ ?_
      refine b_94_55 _ _ _ (by first | assumption | (exact mL_get (by decide)) | (rw [mL_len]; decide) | (simp only [mL_set]; exact mL_get (by decide)) | (simp only [mL_set, mL_len]; decide) | (exact va_eq) | (exact (va_ne (by omega)).trans (by assumption)) | (exact (va_ne (by omega)).trans va_eq) | (exact (va_ne (by omega)).trans ((va_ne (by omega)).trans (by assumption))) | (exact (va_ne (by omega)).trans ((va_ne (by omega)).trans ((va_ne (by omega)).trans (by assumption)))) | rfl | (exact Or.inl rfl) | (exact Or.inr rfl) | omega | (exact Nat.le_of_ble_eq_true rfl) | decide | (exact ⟨by decide, rfl, by decide⟩)) ?_
      exact k0 (fun e => (fun h => absurd (lg_gt.mp z44) (Int64.not_lt.mpr h)) (of_decide_eq_true (p := u ≤ w) e))
    · intro z44
      refine b_94_50 _ _ _ ?_
      refine b_94_55 _ _ _ (by first | assumption | (exact mL_get (by decide)) | (rw [mL_len]; decide) | (simp only [mL_set]; exact mL_get (by decide)) | (simp only [mL_set, mL_len]; decide) | (exact va_eq) | (exact (va_ne (by omega)).trans (by assumption)) | (exact (va_ne (by omega)).trans va_eq) | (exact (va_ne (by omega)).trans ((va_ne (by omega)).trans (by assumption))) | (exact (va_ne (by omega)).trans ((va_ne (by omega)).trans ((va_ne (by omega)).trans (by assumption)))) | rfl | (exact Or.inl rfl) | (exact Or.inr rfl) | omega | (exact Nat.le_of_ble_eq_true rfl) | decide | (exact ⟨by decide, rfl, by decide⟩)) ?_
      exact k1 (decide_eq_true (p := u ≤ w) (Classical.not_not.mp (fun h => z44 (lg_gt.mpr (Int64.not_le.mp h)))))
  · have hk : (Int32.ofNat (cz_k.getD 31 0)) = 32 := rfl
    refine b_94_0 (t4 := 32) _ _ _ (by rw [hk]; decide +kernel) ?_
    refine b_94_32 _ _ _ ?_ ?_
    · intro z32
      refine b_94_42 _ _ _ ?_
      refine b_94_43 _ _ _ (by first | assumption | (exact mL_get (by decide)) | (rw [mL_len]; decide) | (simp only [mL_set]; exact mL_get (by decide)) | (simp only [mL_set, mL_len]; decide) | (exact va_eq) | (exact (va_ne (by omega)).trans (by assumption)) | (exact (va_ne (by omega)).trans va_eq) | (exact (va_ne (by omega)).trans ((va_ne (by omega)).trans (by assumption))) | (exact (va_ne (by omega)).trans ((va_ne (by omega)).trans ((va_ne (by omega)).trans (by assumption)))) | rfl | (exact Or.inl rfl) | (exact Or.inr rfl) | omega | (exact Nat.le_of_ble_eq_true rfl) | decide | (exact ⟨by decide, rfl, by decide⟩)) ?_
      exact k0 (fun e => (fun h => absurd h (lg_ge.mp z32)) (of_decide_eq_true (p := u < w) e))
    · intro z32
      refine b_94_38 _ _ _ ?_
      refine b_94_43 _ _ _ (by first | assumption | (exact mL_get (by decide)) | (rw [mL_len]; decide) | (simp only [mL_set]; exact mL_get (by decide)) | (simp only [mL_set, mL_len]; decide) | (exact va_eq) | (exact (va_ne (by omega)).trans (by assumption)) | (exact (va_ne (by omega)).trans va_eq) | (exact (va_ne (by omega)).trans ((va_ne (by omega)).trans (by assumption))) | (exact (va_ne (by omega)).trans ((va_ne (by omega)).trans ((va_ne (by omega)).trans (by assumption)))) | rfl | (exact Or.inl rfl) | (exact Or.inr rfl) | omega | (exact Nat.le_of_ble_eq_true rfl) | decide | (exact ⟨by decide, rfl, by decide⟩)) ?_
      exact k1 (decide_eq_true (p := u < w) (Classical.not_not.mp (fun h => z32 (lg_ge.mpr h))))
  · have hk : (Int32.ofNat (cz_k.getD 32 0)) = 36 := rfl
    refine b_94_0 (t4 := 80) _ _ _ (by rw [hk]; decide +kernel) ?_
    refine b_94_80 _ _ _ ?_ ?_
    · intro z80
      refine b_94_90 _ _ _ ?_
      refine b_94_91 _ _ _ (by first | assumption | (exact mL_get (by decide)) | (rw [mL_len]; decide) | (simp only [mL_set]; exact mL_get (by decide)) | (simp only [mL_set, mL_len]; decide) | (exact va_eq) | (exact (va_ne (by omega)).trans (by assumption)) | (exact (va_ne (by omega)).trans va_eq) | (exact (va_ne (by omega)).trans ((va_ne (by omega)).trans (by assumption))) | (exact (va_ne (by omega)).trans ((va_ne (by omega)).trans ((va_ne (by omega)).trans (by assumption)))) | rfl | (exact Or.inl rfl) | (exact Or.inr rfl) | omega | (exact Nat.le_of_ble_eq_true rfl) | decide | (exact ⟨by decide, rfl, by decide⟩)) ?_
      exact k0 (fun e => (fun h => z80 (lg_e.mpr h)) (of_decide_eq_true (p := u = w) e))
    · intro z80
      refine b_94_86 _ _ _ ?_
      refine b_94_91 _ _ _ (by first | assumption | (exact mL_get (by decide)) | (rw [mL_len]; decide) | (simp only [mL_set]; exact mL_get (by decide)) | (simp only [mL_set, mL_len]; decide) | (exact va_eq) | (exact (va_ne (by omega)).trans (by assumption)) | (exact (va_ne (by omega)).trans va_eq) | (exact (va_ne (by omega)).trans ((va_ne (by omega)).trans (by assumption))) | (exact (va_ne (by omega)).trans ((va_ne (by omega)).trans ((va_ne (by omega)).trans (by assumption)))) | rfl | (exact Or.inl rfl) | (exact Or.inr rfl) | omega | (exact Nat.le_of_ble_eq_true rfl) | decide | (exact ⟨by decide, rfl, by decide⟩)) ?_
      exact k1 (decide_eq_true (p := u = w) (Classical.not_not.mp (fun h => z80 (fun e => h (lg_e.mp e)))))
end
