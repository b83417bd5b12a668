/-! a transaction: reduce, take and the whole keep that -/
/-- before a transaction -/
def mv_z0 (S : mv_S) (w : Nat → Int64) : mv_Z := (S, (0, fun _ => (0, 0)), (0, fun _ => (0, 0, 0, 0)), w)
section
variable {N m k t j i op A B D x y z many : Nat} {tb : Nat → ms_N} {lo hi v w from1 to1 : Int64} {Z Z' : mv_Z} {bd : Nat → Int64 × Int64} {I : mv_I} {wal : Bool} {R : mv_R} {S : mv_S} {f : Nat → Int64} {ins : Nat → mv_I} {b b' : Bool}
theorem mv_red_s : mv_red tb lo hi (t + 1) b Z = (match mv_step tb lo hi Z with | .error e => .error e | .ok none => .ok (b, Z) | .ok (some Z') => mv_red tb lo hi t true Z') := rfl
/-- what lies deeper, or at the same close -/
def mv_dp (tb : Nat → ms_N) (k k' : Nat) (Z Z' : mv_Z) : Prop := k' < k ∨ (k' = k ∧ Z'.S.at = Z.S.at ∧ ((tb Z.S.at).1 = 0 ∨ Z' = Z))
theorem mv_red_J (ht : mv_tok tb) : ∀ (t : Nat) (b : Bool) (k : Nat) (Z : mv_Z), mv_J tb N k Z → mv_red tb lo hi t b Z = .ok (b', Z') → ∃ k', mv_J tb N k' Z' ∧ k' + mv_fl tb Z'.S ≤ k + mv_fl tb Z.S ∧ mv_dp tb k k' Z Z' := by
  intro t
  induction t with
  | zero =>
    intro b k Z h hr
    cases hr
    exact ⟨k, h, Nat.le_refl _, Or.inr ⟨rfl, rfl, Or.inr rfl⟩⟩
  | succ t ih =>
    intro b k Z h hr
    rw [mv_red_s] at hr
    cases hs : mv_step tb lo hi Z with
    | error e =>
      rw [hs] at hr
      cases hr
    | ok o =>
      rw [hs] at hr
      cases o with
      | none =>
        cases hr
        exact ⟨k, h, Nat.le_refl _, Or.inr ⟨rfl, rfl, Or.inr rfl⟩⟩
      | some Z1 =>
        obtain ⟨k1, j1, l1, l2, d1⟩ := mv_step_J ht h hs
        obtain ⟨k2, j2, l3, d2⟩ := ih true k1 Z1 j1 hr
        refine ⟨k2, j2, by omega, ?_⟩
        rcases d1 with ⟨h0, hat⟩ | d1
        · rcases d2 with d2 | ⟨e, hat2, -⟩
          · exact Or.inl (by omega)
          · by_cases hk : k1 = k
            · exact Or.inr ⟨by omega, hat2.trans hat, Or.inl h0⟩
            · exact Or.inl (by omega)
        · rcases d2 with d2 | ⟨e, -, -⟩
          · exact Or.inl (by omega)
          · exact Or.inl (by omega)
/-- with so much fuel it comes to its end -/
theorem mv_red_e (ht : mv_tok tb) : ∀ (t : Nat) (b : Bool) (k : Nat) (Z : mv_Z), mv_J tb N k Z → k + mv_fl tb Z.S ≤ t → mv_red tb lo hi t b Z = .ok (b', Z') → mv_step tb lo hi Z' = .ok none := by
  intro t
  induction t with
  | zero =>
    intro b k Z h hk hr
    have : k = 0 := by omega
    subst this
    exact absurd h.2.2.1 (by intro h; exact h)
  | succ t ih =>
    intro b k Z h hk hr
    rw [mv_red_s] at hr
    cases hs : mv_step tb lo hi Z with
    | error e =>
      rw [hs] at hr
      cases hr
    | ok o =>
      rw [hs] at hr
      cases o with
      | none =>
        cases hr
        exact hs
      | some Z1 =>
        obtain ⟨k1, j1, l1, l2, d1⟩ := mv_step_J ht h hs
        exact ih true k1 Z1 j1 (by omega) hr
theorem mv_acc_J {pm : Nat} (h : mv_J tb N (k + 1) Z) (h4 : (tb Z.S.at).1 = 4) (hv : (tb m).1 = 8 → mv_in v) (hmN : m < N) (hso : mz_so (tb m).1 = 3) (had : mz_ad (tb m)) (hx : mz_t 4 (tb m).1 = true → m < (tb m).2.2.2.2.2.1 ∧ mz_ok tb N k (mz_sx (tb m).1) (tb m).2.2.2.2.2.1) (hy : mz_ok tb N k 0 (tb m).2.2.2.2.2.2.1) (hs : mv_acc wal m v Z (tb m) = .ok Z') : mv_J tb N k Z' := by
  obtain ⟨hS, hp, hk, h100, hw1, hp1⟩ := h
  have ha : mz_a tb N m := ⟨hmN, hso, had, fun h => mz_ok_le (by omega) (hx h).2, mz_ok_le (by omega) hy⟩
  have hok := mv_acc_ok hS ha hv hs
  have ho := mz_so3 ⟨(tb m).1, mz_so33 hso (by decide)⟩ hso
  dsimp only at ho
  have hfl : mv_fl tb Z.S = 32 := by
    unfold mv_fl
    rw [h4, if_neg (by decide)]
  have fin : ∀ {Z' : mv_Z}, mv_ok Z'.S → mv_D Z Z' → mz_ok tb N k 0 Z'.S.at → mv_J tb N k Z' := by
    intro Z' hS' hd hk'
    have := mv_fl_le (tb := tb) (S := Z'.S)
    have h1 := hd.1
    have h2 := hd.2.1
    exact ⟨hS', hd.2.2, hk', by omega, by omega, by omega⟩
  rcases hcm : tb m with ⟨op, A, B, D, u, x, y, z, t⟩
  rw [hcm] at ho hs hv hy
  dsimp only at ho hv hy
  rcases ho with rfl | rfl | rfl
  · rw [mv_acc_7] at hs
    split at hs
    · cases hs
      exact fin hok.1 ⟨mv_wn_c (Z := Z), by show (Z.wn 1 m).ps.1 ≤ _; rw [mv_wn_p]; exact Nat.le_succ _, mv_pk_wn (Z := Z) hp⟩ hy
    split at hs
    · cases hs
    split at hs
    · cases hs
      refine fin hok.1 ?_ hy
      split <;> exact ⟨Nat.le_succ _, Nat.le_succ _, hp⟩
    · cases hs
  · have hs : (Except.ok ((Z.ch A v).go y) : Except Nat mv_Z) = .ok Z' := hs
    cases hs
    exact fin hok.1 ⟨Nat.le_succ _, Nat.le_succ _, hp⟩ hy
  · have hs : (Except.ok (Z.go y) : Except Nat mv_Z) = .ok Z' := hs
    cases hs
    exact fin hok.1 ⟨Nat.le_succ _, Nat.le_succ _, hp⟩ hy
theorem mv_tks_J (h : mv_J tb N (k + 1) Z) (h4 : (tb Z.S.at).1 = 4) (hb : ∀ j, mv_in (bd j).1 ∧ mv_in (bd j).2) : ∀ (t pm m : Nat), mz_ls tb N (mz_ok tb N k) t pm m → mv_tks tb bd wal R I Z t m = .ok Z' → mv_J tb N k Z' := by
  intro t
  induction t with
  | zero =>
    intro pm m _ h
    cases h
  | succ t ih =>
    intro pm m hl hs
    rw [mv_tks_s] at hs
    by_cases hm0 : m = 0
    · rw [if_pos hm0] at hs
      cases hs
    · rw [if_neg hm0] at hs
      have hl' : m = 0 ∨ _ := hl
      obtain ⟨hpm, hmN, hso, had, hx, hy, hfm, hls⟩ := hl'.resolve_left hm0
      cases hf : mv_fits bd R I (tb m) with
      | none =>
        rw [hf] at hs
        cases hs
      | some b =>
        rw [hf] at hs
        cases b with
        | false => exact ih m _ hls hs
        | true =>
          refine mv_acc_J (pm := pm) h h4 (fun h8 => ?_) hmN hso had hx hy.2 hs
          rcases hcm : tb m with ⟨op, A, B, D, u, x, y, z, M, F⟩
          rw [hcm] at hf h8
          dsimp only at h8
          subst h8
          exact mv_wi_in hb M F (mv_fits_8 hf)
theorem mv_take_J (h : mv_J tb N k Z) (hb : ∀ j, mv_in (bd j).1 ∧ mv_in (bd j).2) (hs : mv_take tb bd wal lo hi I Z = .ok Z') : ∃ k', mv_J tb N k' Z' ∧ k' < k := by
  unfold mv_take at hs
  split at hs
  · rename_i h4
    cases k with
    | zero => exact absurd h.2.2.1 (by intro h; exact h)
    | succ k => exact ⟨k, mv_tks_J h h4 hb 8 Z.S.at _ ((mz_un h.2.2.1).2.2.2.2.1 (by rw [h4]; decide)) hs, Nat.lt_succ_self _⟩
  · cases hs
theorem mv_ins_J (ht : mv_tok tb) (hb : ∀ j, mv_in (bd j).1 ∧ mv_in (bd j).2) : ∀ (t i k : Nat) (Z : mv_Z), mv_J tb N k Z → mv_ins tb bd wal lo hi ins t i Z = .ok Z' → ∃ k', mv_J tb N k' Z' ∧ k' ≤ k ∧ (0 < t → k' < k) := by
  intro t
  induction t with
  | zero =>
    intro i k Z h hs
    cases hs
    exact ⟨k, h, Nat.le_refl _, fun h => absurd h (by decide)⟩
  | succ t ih =>
    intro i k Z h hs
    unfold mv_ins at hs
    cases h1 : mv_take tb bd wal lo hi (ins i) Z with
    | error e =>
      rw [h1] at hs
      cases hs
    | ok Z1 =>
      rw [h1] at hs
      dsimp only at hs
      obtain ⟨k1, j1, l1⟩ := mv_take_J h hb h1
      cases h2 : mv_red tb lo hi 148 false Z1 with
      | error e =>
        rw [h2] at hs
        cases hs
      | ok o =>
        obtain ⟨b2, Z2⟩ := o
        rw [h2] at hs
        obtain ⟨k2, j2, l2, d2⟩ := mv_red_J ht 148 false k1 Z1 j1 h2
        obtain ⟨k3, j3, l3, -⟩ := ih (i + 1) k2 Z2 j2 hs
        have : k2 ≤ k1 := by
          rcases d2 with d | ⟨d, -⟩ <;> omega
        exact ⟨k3, j3, by omega, fun _ => by omega⟩
theorem mv_J0 {w : Nat → Int64} (hS : mv_ok S) (hk : mz_ok tb N k 0 S.at) (h100 : k ≤ 100) : mv_J tb N k ((mv_z0 S w).ti v) := by
  have := mv_fl_le (tb := tb) (S := ((mv_z0 S w).ti v).S)
  refine ⟨hS, fun i hi => absurd hi (Nat.not_lt_zero i), hk, h100, ?_, ?_⟩
  · show 0 + k + _ ≤ 132
    omega
  · show 0 + k + _ ≤ 132
    omega
theorem mv_run_J {w : Nat → Int64} (ht : mv_tok tb) (hb : ∀ j, mv_in (bd j).1 ∧ mv_in (bd j).2) (hS : mv_ok S) (hk : mz_ok tb N k 0 S.at) (h100 : k ≤ 100) (hs : mv_run tb bd wal many ins from1 to1 (mv_z0 S w) = .ok Z') : ∃ k', mv_J tb N k' Z' ∧ k' ≤ k := by
  unfold mv_run at hs
  split at hs
  · cases hs
  split at hs
  · cases hs
  cases h1 : mv_red tb (mv_lo from1 (mv_z0 S w).S.tm) to1 148 false ((mv_z0 S w).ti (mv_lo from1 (mv_z0 S w).S.tm)) with
  | error e =>
    rw [h1] at hs
    cases hs
  | ok o =>
    obtain ⟨b1, Z1⟩ := o
    rw [h1] at hs
    dsimp only at hs
    split at hs
    · cases hs
    · obtain ⟨k1, j1, l1, d1⟩ := mv_red_J ht 148 false k _ (mv_J0 hS hk h100) h1
      obtain ⟨k2, j2, l2, -⟩ := mv_ins_J ht hb many 0 k1 Z1 j1 hs
      have : k1 ≤ k := by
        rcases d1 with d | ⟨d, -⟩ <;> omega
      exact ⟨k2, j2, by omega⟩
end
