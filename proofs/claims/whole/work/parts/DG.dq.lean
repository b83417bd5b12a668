/-! an input keeps bounds and nodes -/
section
variable {N m k t j : Nat} {tb : Nat → ms_N} {lo hi v w : Int64} {Z Z' : mv_Z} {bd : Nat → Int64 × Int64} {I : mv_I} {wal : Bool} {R : mv_R}
theorem mv_wi_in (hb : ∀ j, mv_in (bd j).1 ∧ mv_in (bd j).2) : ∀ (t j : Nat), mv_wi bd v t j = true → mv_in v := by
  intro t
  induction t with
  | zero =>
    intro j h
    cases h
  | succ t ih =>
    intro j h
    unfold mv_wi at h
    split at h
    · rename_i hh
      rw [Int64.le_iff_toInt_le, Int64.le_iff_toInt_le] at hh
      have h1 := (hb j).1.1
      have h2 := (hb j).2.2
      exact ⟨by omega, by omega⟩
    · exact ih (j + 1) h
theorem mv_acc_ok (hS : mv_ok Z.S) (ha : mz_a tb N m) (hv : (tb m).1 = 8 → mv_in v) (h : mv_acc wal m v Z (tb m) = .ok Z') : mv_ok Z'.S ∧ mz_ok tb N 100 0 Z'.S.at := by
  have ho := mz_so3 ⟨(tb m).1, mz_so33 ha.2.1 (by decide)⟩ ha.2.1
  dsimp only at ho
  obtain ⟨-, -, -, -, hy⟩ := ha
  rcases hcm : tb m with ⟨op, A, B, D, u, x, y, z, t⟩
  rw [hcm] at ho h hv hy
  dsimp only at ho hv hy
  rcases ho with rfl | rfl | rfl
  · rw [mv_acc_7] at h
    split at h
    · cases h
      exact ⟨by show mv_ok (Z.wn 1 m).S; rw [mv_wn_S]; exact hS, mz_dn hy⟩
    split at h
    · cases h
    split at h
    · rename_i hl
      cases h
      have hl := mv_lm_i hl
      refine ⟨mv_ok_ac (Z := if wal = true then Z.tk (B * 4 + D) (Z.lf (B * 4 + D) - v) else Z) ?_ hl.1 hl.2, mz_dn hy⟩
      split <;> exact hS
    · cases h
  · have h : (Except.ok ((Z.ch A v).go y) : Except Nat mv_Z) = .ok Z' := h
    cases h
    exact ⟨mv_ok_ch hS (hv rfl), mz_dn hy⟩
  · have h : (Except.ok (Z.go y) : Except Nat mv_Z) = .ok Z' := h
    cases h
    exact ⟨hS, mz_dn hy⟩
theorem mv_fits_8 {A B D x y z M F : Nat} {u : Int64} (h : mv_fits bd R I (8, A, B, D, u, x, y, z, M, F) = some true) : mv_wi bd I.2.2.2.2 M F = true := by
  unfold mv_fits at h
  dsimp only at h
  split at h
  · cases h
  rw [if_neg (by decide)] at h
  split at h
  · cases h
  rw [if_pos rfl] at h
  injection h
theorem mv_tks_ok (hS : mv_ok Z.S) (hb : ∀ j, mv_in (bd j).1 ∧ mv_in (bd j).2) : ∀ (t pm m : Nat), mz_ls tb N (mz_ok tb N 99) t pm m → mv_tks tb bd wal R I Z t m = .ok Z' → mv_ok Z'.S ∧ mz_ok tb N 100 0 Z'.S.at := by
  intro t
  induction t with
  | zero =>
    intro pm m _ h
    cases h
  | succ t ih =>
    intro pm m hl h
    rw [mv_tks_s] at h
    by_cases hm0 : m = 0
    · rw [if_pos hm0] at h
      cases h
    · rw [if_neg hm0] at h
      have hl' : m = 0 ∨ _ := hl
      obtain ⟨hpm, hmN, hso, had, hx, hy, hfm, hls⟩ := hl'.resolve_left hm0
      have ha : mz_a tb N m := ⟨hmN, hso, had, fun h => (hx h).2, hy.2⟩
      cases hf : mv_fits bd R I (tb m) with
      | none =>
        rw [hf] at h
        cases h
      | some b =>
        rw [hf] at h
        cases b with
        | false => exact ih m _ hls h
        | true =>
          refine mv_acc_ok hS ha (fun h8 => ?_) h
          rcases hcm : tb m with ⟨op, A, B, D, u, x, y, z, M, F⟩
          rw [hcm] at hf h8
          dsimp only at h8
          subst h8
          exact mv_wi_in hb M F (mv_fits_8 hf)
theorem mv_take_ok (hS : mv_ok Z.S) (hb : ∀ j, mv_in (bd j).1 ∧ mv_in (bd j).2) (hok : mz_ok tb N 100 0 Z.S.at) (h : mv_take tb bd wal lo hi I Z = .ok Z') : mv_ok Z'.S ∧ mz_ok tb N 100 0 Z'.S.at := by
  unfold mv_take at h
  split at h
  · rename_i h4
    exact mv_tks_ok hS hb 8 Z.S.at _ ((mz_un (k := 99) hok).2.2.2.2.1 (by rw [h4]; decide)) h
  · cases h
end
section
variable {d e n sl : Nat} {a : mh_A} {f0 : Nat → mi_C} {Q : (Option Value ⊕ Nat) → mi_H → Prop} {p : Nat}
theorem cm_red0 (hn : 575 ≤ n) (hp : mh_o p 7) (he : ¬ a.I 7 p 6 = 0) (K : Q (.inl (some (.int 0))) (n, sl, hc a f0)) : mi_W d 80 0 (mi_en 5 [.ref p]) [] (n, sl, hc a f0) Q := by
  have hp5 := hp.1
  refine b_80_0 _ _ _ ?_
  refine b_80_4 _ _ _ ?_ ?_
  · intro z4
    first | (exact absurd z4 (by decide)) | (exact absurd (by decide) z4) | (exact absurd rfl z4) | (exact absurd z4 (of_nn (by omega))) | (exact absurd (of_np (by omega)) z4) | omega
  · intro z4
    refine b_80_11 _ _ _ (by first | (exact hc_o (by first | assumption | (exact ⟨by decide, rfl⟩))) | assumption | (exact (hc_far (by omega)).trans (by assumption))) (by omega) (by first | rfl | assumption) ?_ ?_
    · intro z11
      refine b_80_252 _ _ _ (by first | assumption | (exact mL_get (by decide)) | (rw [mL_len]; decide) | (simp only [mL_set]; exact mL_get (by decide)) | (simp only [mL_set, mL_len]; decide) | (exact va_eq) | (exact (va_ne (by omega)).trans (by assumption)) | (exact (va_ne (by omega)).trans va_eq) | (exact (va_ne (by omega)).trans ((va_ne (by omega)).trans (by assumption))) | (exact (va_ne (by omega)).trans ((va_ne (by omega)).trans ((va_ne (by omega)).trans (by assumption)))) | rfl | (exact Or.inl rfl) | (exact Or.inr rfl) | omega | (exact Nat.le_of_ble_eq_true rfl) | decide | (exact ⟨by decide, rfl, by decide⟩)) ?_
      exact K
    · intro z11
      exact absurd (Classical.not_not.mp z11) he
theorem ce_clear (hn : 575 ≤ n) (hp : p = 41 ∨ p = 67) (K : Q (.inl none) (n, sl, hc ((a.sI 8 (p + 1) 6 0).sI 8 (p + 1) 7 0) f0)) : mi_W d 75 0 (mi_en 1 [.ref (p + 1)]) [] (n, sl, hc a f0) Q := by
  obtain ⟨ho, hp5, -⟩ := ht8 hp
  refine b_75_0 _ _ _ (by first | (exact hc_o (by first | assumption | (exact ⟨by decide, rfl⟩))) | assumption | (exact (hc_far (by omega)).trans (by assumption))) (by omega) (Nat.le_of_ble_eq_true rfl) (by first | (exact (congrFun (hw_I (by first | assumption | (exact ⟨by decide, rfl⟩)) (by decide)) _).trans (hc_o (by first | assumption | (exact ⟨by decide, rfl⟩)))) | assumption | (exact (hc_far (by omega)).trans (by assumption))) (by omega) (Nat.le_of_ble_eq_true rfl) ?_
  refine hw_Q (hw_2 (hw_I (by first | assumption | (exact ⟨by decide, rfl⟩)) (by decide)) (hw_I (by first | assumption | (exact ⟨by decide, rfl⟩)) (by decide))) ?_
  exact K
end
