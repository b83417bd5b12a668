/-! what is left of the wallets, and the wallets behind a transaction: cell by cell -/
def mv_wk (w : Nat → Int64) : Prop := ∀ j, 0 ≤ (w j).toInt ∧ (w j).toInt ≤ 4611686018427387904
def mv_ce (ps : Nat → Nat × Nat × Nat × Int64) (c : Nat) : Nat → Nat → Int64 → Option Int64
  | 0, _, v => some v
  | t + 1, k, v => if (ps k).2.1 * 4 + (ps k).2.2.1 = c then (if 4611686018427387904 - (ps k).2.2.2 < v then none else mv_ce ps c t (k + 1) (v + (ps k).2.2.2)) else mv_ce ps c t (k + 1) v
section
variable {N m k t j i op A B D x y z many : Nat} {tb : Nat → ms_N} {lo hi v u from1 to1 : Int64} {Z Z' : mv_Z} {bd : Nat → Int64 × Int64} {I : mv_I} {wal : Bool} {R : mv_R} {S : mv_S} {ins : Nat → mv_I} {b b' : Bool} {w w' : Nat → Int64} {ps : Nat → Nat × Nat × Nat × Int64}
theorem mv_set_ce : ∀ (t k : Nat) (w : Nat → Int64), (∀ w', mv_set ps t k w = some w' → ∀ c, mv_ce ps c t k (w c) = some (w' c)) ∧ (mv_set ps t k w = none → ∃ i, k ≤ i ∧ i < k + t ∧ mv_ce ps ((ps i).2.1 * 4 + (ps i).2.2.1) t k (w ((ps i).2.1 * 4 + (ps i).2.2.1)) = none) := by
  intro t
  induction t with
  | zero =>
    intro k w
    refine ⟨fun w' h c => ?_, fun h => ?_⟩
    · cases h
      rfl
    · cases h
  | succ t ih =>
    intro k w
    have e1 : mv_set ps (t + 1) k w = if 4611686018427387904 - (ps k).2.2.2 < w ((ps k).2.1 * 4 + (ps k).2.2.1) then none else mv_set ps t (k + 1) (va_up w ((ps k).2.1 * 4 + (ps k).2.2.1) (w ((ps k).2.1 * 4 + (ps k).2.2.1) + (ps k).2.2.2)) := rfl
    have e2 : ∀ c v, mv_ce ps c (t + 1) k v = if (ps k).2.1 * 4 + (ps k).2.2.1 = c then (if 4611686018427387904 - (ps k).2.2.2 < v then none else mv_ce ps c t (k + 1) (v + (ps k).2.2.2)) else mv_ce ps c t (k + 1) v := fun _ _ => rfl
    by_cases hl : 4611686018427387904 - (ps k).2.2.2 < w ((ps k).2.1 * 4 + (ps k).2.2.1)
    · rw [e1, if_pos hl]
      refine ⟨fun w' h => (by cases h), fun _ => ⟨k, Nat.le_refl _, by omega, ?_⟩⟩
      rw [e2, if_pos rfl, if_pos hl]
    · rw [e1, if_neg hl]
      have hs : ∀ c, mv_ce ps c (t + 1) k (w c) = mv_ce ps c t (k + 1) (va_up w ((ps k).2.1 * 4 + (ps k).2.2.1) (w ((ps k).2.1 * 4 + (ps k).2.2.1) + (ps k).2.2.2) c) := by
        intro c
        rw [e2]
        by_cases hc : (ps k).2.1 * 4 + (ps k).2.2.1 = c
        · rw [if_pos hc]
          subst hc
          rw [if_neg hl, va_eq]
        · rw [if_neg hc, va_ne (fun e => hc e.symm)]
      have H := ih (k + 1) (va_up w ((ps k).2.1 * 4 + (ps k).2.2.1) (w ((ps k).2.1 * 4 + (ps k).2.2.1) + (ps k).2.2.2))
      refine ⟨fun w' h c => ?_, fun h => ?_⟩
      · rw [hs]
        exact H.1 w' h c
      · obtain ⟨i, h1, h2, h3⟩ := H.2 h
        exact ⟨i, by omega, by omega, by rw [hs]; exact h3⟩
theorem mv_lim_i {a v : Int64} (ha : 0 < a.toInt) (ha2 : a.toInt ≤ 4611686018427387904) : 4611686018427387904 - a < v ↔ 4611686018427387904 < v.toInt + a.toInt := by
  have e : (4611686018427387904 - a : Int64).toInt = 4611686018427387904 - a.toInt := by
    rw [Int64.toInt_sub]
    exact bm64 (by show _ ≤ (4611686018427387904 : Int) - _; omega) (by show (4611686018427387904 : Int) - _ < _; omega)
  rw [Int64.lt_iff_toInt_lt, e]
  omega
theorem mv_add_i {a v : Int64} (h0 : 0 ≤ v.toInt) (ha : 0 < a.toInt) (ha2 : a.toInt ≤ 4611686018427387904) (h : v.toInt + a.toInt < 9223372036854775808) : (v + a).toInt = v.toInt + a.toInt := by
  rw [Int64.toInt_add]
  exact bm64 (by omega) h
theorem mv_add_n {a v : Int64} (h0 : 0 ≤ v.toInt) (ha : 0 < a.toInt) (ha2 : a.toInt ≤ 4611686018427387904) (h : ¬ v.toInt + a.toInt < 9223372036854775808) : (v + a).toInt < 0 := by
  rw [Int64.toInt_add]
  have := mq_b v
  rw [Int.bmod_def]
  split <;> omega
theorem mv_set_wk : ∀ (t k : Nat) (w w' : Nat → Int64), mv_wk w → (∀ i, k ≤ i → i < k + t → 0 < (ps i).2.2.2.toInt ∧ (ps i).2.2.2.toInt ≤ 4611686018427387904) → mv_set ps t k w = some w' → mv_wk w' := by
  intro t
  induction t with
  | zero =>
    intro k w w' hw _ h
    cases h
    exact hw
  | succ t ih =>
    intro k w w' hw hp h
    have e1 : mv_set ps (t + 1) k w = if 4611686018427387904 - (ps k).2.2.2 < w ((ps k).2.1 * 4 + (ps k).2.2.1) then none else mv_set ps t (k + 1) (va_up w ((ps k).2.1 * 4 + (ps k).2.2.1) (w ((ps k).2.1 * 4 + (ps k).2.2.1) + (ps k).2.2.2)) := rfl
    rw [e1] at h
    have hk := hp k (Nat.le_refl _) (by omega)
    split at h
    · cases h
    · rename_i hl
      refine ih (k + 1) _ w' (fun j => ?_) (fun i h1 h2 => hp i (by omega) (by omega)) h
      by_cases e : j = (ps k).2.1 * 4 + (ps k).2.2.1
      · subst e
        rw [va_eq]
        have h1 := hw ((ps k).2.1 * 4 + (ps k).2.2.1)
        rw [mv_lim_i hk.1 hk.2] at hl
        rw [mv_add_i h1.1 hk.1 hk.2 (by omega)]
        omega
      · rw [va_ne e]
        exact hw j
theorem mv_p1_l : (mv_p1 A D y m Z v).lf = Z.lf := by
  unfold mv_p1
  dsimp only
  split
  · rw [mv_wn_l]
    rfl
  · rfl
theorem mv_pay_l : (mv_pay op A B D y m Z v).1.lf = Z.lf := by
  unfold mv_pay
  split
  · dsimp only
    rw [mv_wn_l]
    rfl
  · unfold mv_p2
    split
    · dsimp only
      split
      · exact mv_p1_l
      · rw [mv_py_l]
        exact mv_p1_l
    · exact mv_p1_l
theorem mv_step_l (hs : mv_step tb lo hi Z = .ok (some Z')) : Z'.lf = Z.lf := by
  unfold mv_step at hs
  generalize mv_E tb Z.S lo hi 100 = R at hs
  rcases tb Z.S.at with ⟨op, A, B, D, u, x, y, z, t⟩
  unfold mv_s1 at hs
  dsimp only at hs
  split at hs
  · split at hs
    · cases hs
    · cases hs
      unfold mv_cl
      show (Z.py _ _ _ _).lf = _
      exact mv_py_l
  split at hs
  · split at hs
    · cases hs
    · split at hs
      · cases hs
        exact mv_pay_l
      · cases hs
  split at hs
  · split at hs
    · cases hs
    · cases hs
      rfl
  split at hs
  · split at hs
    · cases hs
    · split at hs
      · cases hs
      · cases hs
        rfl
  split at hs
  · split at hs
    · cases hs
    · cases hs
      unfold mv_let
      dsimp only
      split
      · exact mv_wn_l
      · rfl
  · split at hs
    · cases hs
    · cases hs
      unfold mv_ass
      split
      · rfl
      · exact mv_wn_l
theorem mv_red_l : ∀ (t : Nat) (b : Bool) (Z : mv_Z), mv_red tb lo hi t b Z = .ok (b', Z') → Z'.lf = Z.lf := by
  intro t
  induction t with
  | zero =>
    intro b Z h
    cases h
    rfl
  | succ t ih =>
    intro b Z h
    rw [mv_red_s] at h
    cases hs : mv_step tb lo hi Z with
    | error e =>
      rw [hs] at h
      cases h
    | ok o =>
      rw [hs] at h
      cases o with
      | none =>
        cases h
        rfl
      | some Z1 => exact (ih true Z1 h).trans (mv_step_l hs)
theorem mv_acc_l (hw : mv_wk Z.lf) {c : ms_N} (hs : mv_acc wal m v Z c = .ok Z') : mv_wk Z'.lf := by
  rcases c with ⟨op, A, B, D, u, x, y, z, t⟩
  unfold mv_acc at hs
  dsimp only at hs
  split at hs
  · cases hs
    exact hw
  split at hs
  · cases hs
    exact hw
  split at hs
  · cases hs
    show mv_wk (Z.wn 1 m).lf
    rw [mv_wn_l]
    exact hw
  split at hs
  · cases hs
  split at hs
  · rename_i hv hl _
    cases hs
    by_cases hwl : wal = true
    · rw [if_pos hwl]
      intro j
      show 0 ≤ (va_up Z.2.2.2 (B * 4 + D) (Z.lf (B * 4 + D) - v) j).toInt ∧ (va_up Z.2.2.2 (B * 4 + D) (Z.lf (B * 4 + D) - v) j).toInt ≤ 4611686018427387904
      by_cases e : j = B * 4 + D
      · rw [e, va_eq]
        have h1 := hw (B * 4 + D)
        have h2 : ¬ Z.lf (B * 4 + D) < v := fun h => hl ⟨hwl, h⟩
        rw [Int64.lt_iff_toInt_lt] at h2
        rw [Int64.le_iff_toInt_le] at hv
        have h0 : (0 : Int64).toInt = 0 := rfl
        rw [Int64.toInt_sub, bm64 (by omega) (by omega)]
        omega
      · rw [va_ne e]
        exact hw j
    · rw [if_neg hwl]
      exact hw
  · cases hs
theorem mv_take_l (hw : mv_wk Z.lf) (hs : mv_take tb bd wal lo hi I Z = .ok Z') : mv_wk Z'.lf := by
  unfold mv_take at hs
  generalize mv_E tb Z.S lo hi 100 = R at hs
  split at hs
  · revert hs
    generalize (tb Z.S.at).2.2.2.2.2.1 = m
    generalize 8 = t
    induction t generalizing m with
    | zero =>
      intro h
      cases h
    | succ t ih =>
      intro h
      rw [mv_tks_s] at h
      split at h
      · cases h
      · cases hf : mv_fits bd R I (tb m) with
        | none =>
          rw [hf] at h
          cases h
        | some b =>
          rw [hf] at h
          cases b with
          | false => exact ih _ h
          | true => exact mv_acc_l hw h
  · cases hs
theorem mv_ins_l : ∀ (t i : Nat) (Z : mv_Z), mv_wk Z.lf → mv_ins tb bd wal lo hi ins t i Z = .ok Z' → mv_wk Z'.lf := by
  intro t
  induction t with
  | zero =>
    intro i Z h hs
    cases hs
    exact h
  | succ t ih =>
    intro i Z h hs
    unfold mv_ins at hs
    cases h1 : mv_take tb bd wal lo hi (ins i) Z with
    | error e =>
      rw [h1] at hs
      cases hs
    | ok Z1 =>
      rw [h1] at hs
      dsimp only at hs
      cases h2 : mv_red tb lo hi 148 false Z1 with
      | error e =>
        rw [h2] at hs
        cases hs
      | ok o =>
        obtain ⟨b2, Z2⟩ := o
        rw [h2] at hs
        exact ih (i + 1) Z2 (by rw [mv_red_l 148 false Z1 h2]; exact mv_take_l h h1) hs
theorem mv_run_l (hw : mv_wk w) (hs : mv_run tb bd wal many ins from1 to1 (mv_z0 S w) = .ok Z') : mv_wk Z'.lf := by
  unfold mv_run at hs
  split at hs
  · cases hs
  split at hs
  · cases hs
  cases h1 : mv_red tb (mv_lo from1 (mv_z0 S w).S.tm) to1 148 false ((mv_z0 S w).ti (mv_lo from1 (mv_z0 S w).S.tm)) with
  | error e =>
    rw [h1] at hs
    cases hs
  | ok o =>
    obtain ⟨b1, Z1⟩ := o
    rw [h1] at hs
    dsimp only at hs
    split at hs
    · cases hs
    · exact mv_ins_l many 0 Z1 (by rw [mv_red_l 148 false _ h1]; exact hw) hs
end
