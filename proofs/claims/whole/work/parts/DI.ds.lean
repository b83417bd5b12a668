/-! the first object: the wallets behind a transaction -/
section
variable {d e n sl N : Nat} {a : mh_A} {f0 : Nat → mi_C} {Q : (Option Value ⊕ Nat) → mi_H → Prop} {Z : mv_Z}
theorem cw_setl {o4 : Option Value} (hn : 575 ≤ n) (he : cEv a 42 Z) (hp : ∀ i, i < Z.ps.1 → (Z.ps.2 i).2.1 < 8 ∧ (Z.ps.2 i).2.2.1 < 4) : ∀ (t k : Nat) (g w : Nat → Int64) (o4 : Option Value), k + t = Z.ps.1 → (∀ j, j < 32 → g j = w j) → (∀ g', mv_set Z.ps.2 t k w = none → Q (.inl (some (.int 0))) (n, sl, hc (a.sAL 5 32 1 g') f0)) → (∀ g' w' k' o4', mv_set Z.ps.2 t k w = some w' → (∀ j, j < 32 → g' j = w' j) → mi_W d 112 86 [some (.ref 32), some (.ref 42), some (.int k'), o4'] [] (n, sl, hc (a.sAL 5 32 1 g') f0) Q) → mi_W d 112 2 [some (.ref 32), some (.ref 42), some (.int (Int32.ofNat k)), o4] [] (n, sl, hc (a.sAL 5 32 1 g) f0) Q := by
  have e1 := he.2.1
  have e2 := he.2.2.1
  have e3 := he.2.2.2
  intro t
  induction t with
  | zero =>
    intro k g w o4 hk hg K0 K1
    have e1' : (a.sAL 5 32 1 g).I 8 42 7 = Int32.ofNat Z.ps.1 := e1
    refine b_112_2 _ _ _ (by first | (exact hc_o (by first | assumption | (exact ⟨by decide, rfl⟩))) | assumption | (exact (hc_far (by omega)).trans (by assumption))) (by omega) (by first | rfl | assumption) ?_ ?_
    · intro z2
      exact K1 g w _ _ rfl hg
    · intro z2
      exact absurd ((i_le e1' rfl (by omega) (by omega)).mpr (by omega)) z2
  | succ t ih =>
    intro k g w o4 hk hg K0 K1
    have e1' : (a.sAL 5 32 1 g).I 8 42 7 = Int32.ofNat Z.ps.1 := e1
    obtain ⟨hp1, hp2⟩ := hp k (by omega)
    obtain ⟨-, q1, q2, q3⟩ := e3 k (by omega)
    have q1' : (a.sAL 5 32 1 g).AI 8 42 3 k = Int32.ofNat (Z.ps.2 k).2.1 := q1
    have q2' : (a.sAL 5 32 1 g).AI 8 42 4 k = Int32.ofNat (Z.ps.2 k).2.2.1 := q2
    have q3' : (a.sAL 5 32 1 g).AL 8 42 5 k = (Z.ps.2 k).2.2.2 := q3
    have hu : mv_set Z.ps.2 (t + 1) k w = if 4611686018427387904 - (Z.ps.2 k).2.2.2 < w ((Z.ps.2 k).2.1 * 4 + (Z.ps.2 k).2.2.1) then none else mv_set Z.ps.2 t (k + 1) (va_up w ((Z.ps.2 k).2.1 * 4 + (Z.ps.2 k).2.2.1) (w ((Z.ps.2 k).2.1 * 4 + (Z.ps.2 k).2.2.1) + (Z.ps.2 k).2.2.2)) := rfl
    generalize (Z.ps.2 k).2.1 = A at *
    generalize (Z.ps.2 k).2.2.1 = D at *
    generalize (Z.ps.2 k).2.2.2 = v at *
    have hik := ix_of (w := k) (m := 148) (by omega) (by omega)
    have hix := ix_of (w := A * 4 + D) (m := 32) (by omega) (by omega)
    have ee : Int32.ofNat A * 4 + Int32.ofNat D = Int32.ofNat (A * 4 + D) := by
      rw [show (4 : Int32) = Int32.ofNat 4 from rfl, of_mul, of_add']
    have hgw : (a.sAL 5 32 1 g).AL 5 32 1 (A * 4 + D) = w (A * 4 + D) := by rw [AL_at]; exact hg _ (by omega)
    refine b_112_2 _ _ _ (by first | (exact hc_o (by first | assumption | (exact ⟨by decide, rfl⟩))) | assumption | (exact (hc_far (by omega)).trans (by assumption))) (by omega) (by first | rfl | assumption) ?_ ?_
    · intro z2
      exact absurd ((i_le e1' rfl (by omega) (by omega)).mp z2) (by omega)
    · intro z2
      refine b_112_10 _ _ _ ?_ ?_
      · intro z10
        exact absurd ((i_le (a := 148) rfl rfl (by omega) (by omega)).mp z10) (by omega)
      · intro z10
        refine b_112_17 _ _ _ _ _ _ _ _ _ (by first | (exact hc_o (by first | assumption | (exact ⟨by decide, rfl⟩))) | assumption | (exact (hc_far (by omega)).trans (by assumption))) (by omega) (by first | rfl | assumption) (by first | (exact hc_ai (by omega) (by first | assumption | (exact (ht9 (by assumption)).2.1) | (exact (ht9 (by assumption)).2.2.1) | (exact (ht9 (by assumption)).2.2.2) | rfl) (by decide)) | assumption | (exact (hc_far (by omega)).trans (by assumption))) (Or.inl (by omega)) (by first | assumption | (exact ix_of (by omega) (by omega)) | (exact ⟨by decide, rfl, by decide⟩)) (by first | (exact hc_o (by first | assumption | (exact ⟨by decide, rfl⟩))) | assumption | (exact (hc_far (by omega)).trans (by assumption))) (by omega) (by first | rfl | assumption) (by first | (exact hc_ai (by omega) (by first | assumption | (exact (ht9 (by assumption)).2.1) | (exact (ht9 (by assumption)).2.2.1) | (exact (ht9 (by assumption)).2.2.2) | rfl) (by decide)) | assumption | (exact (hc_far (by omega)).trans (by assumption))) (Or.inl (by omega)) (by first | assumption | (exact ix_of (by omega) (by omega)) | (exact ⟨by decide, rfl, by decide⟩)) ?_ ?_
        · intro z17
          exact absurd z17 (by rw [q1', q2', ee]; exact of_nn (by omega))
        · intro z17
          rw [q1', q2', ee]
          refine b_112_37 _ _ _ ?_ ?_
          · intro z37
            exact absurd ((i_le (a := 32) rfl rfl (by omega) (by omega)).mp z37) (by omega)
          · intro z37
            refine b_112_43 _ _ _ _ _ _ _ _ _ (by first | (exact hc_o (by first | assumption | (exact ⟨by decide, rfl⟩))) | assumption | (exact (hc_far (by omega)).trans (by assumption))) (by omega) (by first | rfl | assumption) (by first | (exact hc_al (by omega) (by first | assumption | (exact (ht9 (by assumption)).2.1) | (exact (ht9 (by assumption)).2.2.1) | (exact (ht9 (by assumption)).2.2.2) | rfl)) | assumption | (exact (hc_far (by omega)).trans (by assumption))) (by omega) (by first | assumption | (exact ix_of (by omega) (by omega)) | (exact ⟨by decide, rfl, by decide⟩)) (by first | (exact hc_o (by first | assumption | (exact ⟨by decide, rfl⟩))) | assumption | (exact (hc_far (by omega)).trans (by assumption))) (by omega) (by first | rfl | assumption) (by first | (exact hc_al (by omega) (by first | assumption | (exact (ht9 (by assumption)).2.1) | (exact (ht9 (by assumption)).2.2.1) | (exact (ht9 (by assumption)).2.2.2) | rfl)) | assumption | (exact (hc_far (by omega)).trans (by assumption))) (by omega) (by first | assumption | (exact ix_of (by omega) (by omega)) | (exact ⟨by decide, rfl, by decide⟩)) ?_ ?_
            · intro z43
              rw [hgw, q3'] at z43
              refine b_112_65 _ _ _ _ _ _ _ _ _ _ _ _ (by first | (exact hc_o (by first | assumption | (exact ⟨by decide, rfl⟩))) | assumption | (exact (hc_far (by omega)).trans (by assumption))) (by omega) (by first | rfl | assumption) (by first | (exact hc_al (by omega) (by first | assumption | (exact (ht9 (by assumption)).2.1) | (exact (ht9 (by assumption)).2.2.1) | (exact (ht9 (by assumption)).2.2.2) | rfl)) | assumption | (exact (hc_far (by omega)).trans (by assumption))) (by omega) (by first | assumption | (exact ix_of (by omega) (by omega)) | (exact ⟨by decide, rfl, by decide⟩)) (by first | (exact hc_o (by first | assumption | (exact ⟨by decide, rfl⟩))) | assumption | (exact (hc_far (by omega)).trans (by assumption))) (by omega) (by first | rfl | assumption) (by first | (exact hc_al (by omega) (by first | assumption | (exact (ht9 (by assumption)).2.1) | (exact (ht9 (by assumption)).2.2.1) | (exact (ht9 (by assumption)).2.2.2) | rfl)) | assumption | (exact (hc_far (by omega)).trans (by assumption))) (by omega) (by first | assumption | (exact ix_of (by omega) (by omega)) | (exact ⟨by decide, rfl, by decide⟩)) (by first | (exact hc_al (by omega) (by first | assumption | (exact (ht9 (by assumption)).2.1) | (exact (ht9 (by assumption)).2.2.1) | (exact (ht9 (by assumption)).2.2.2) | rfl)) | assumption | (exact (hc_far (by omega)).trans (by assumption))) (by omega) (by first | assumption | (exact ix_of (by omega) (by omega)) | (exact ⟨by decide, rfl, by decide⟩)) ?_
              refine hw_W (hw_AL (by omega) (by first | assumption | (exact (ht9 (by assumption)).2.1) | (exact (ht9 (by assumption)).2.2.1) | (exact (ht9 (by assumption)).2.2.2) | rfl)) ?_
              rw [of_succ, hgw, q3', sAL2]
              rw [if_neg (Int64.not_lt.mpr (lg_le.mp z43))] at hu
              rw [hu] at K0 K1
              refine ih (k + 1) _ _ _ (by omega) (fun j hj => ?_) K0 K1
              rw [AL_at]
              exact up_L hg j hj
            · intro z43
              rw [hgw, q3'] at z43
              refine b_112_63 _ _ _ ?_
              refine K0 g ?_
              rw [hu, if_pos (Int64.not_le.mp (fun h => z43 (lg_le.mpr h)))]
end
