/-! the second object: a new state; what a step of time, and one alone, lead to -/
def mg_new (b : mg_A) (p : Nat) (e : mr_E) : mg_A := (b.1, b.2.1, (fun k r => if r = p then (if k = 0 then fun _ => e.1 else if k = 4 then e.2.2.2.2.2.1 else e.2.2.2.2.2.2) else b.P k r), (fun k r => if r = p then (if k = 0 then fun _ => e.2.1 else if k = 1 then e.2.2.1 else if k = 2 then e.2.2.2.1 else e.2.2.2.2.1) else b.L k r), b.s, b.B, fun q => if p ≤ q ∧ q < p + 6 then q - p + 1 else b.D q)
section
variable {n sl d N BN m k t i c : Nat} {b : mg_A} {f0 f' : Nat → mi_C} {e : mr_E} {tb : Nat → ms_N} {bd : Nat → Int64 × Int64} {S : mv_S} {Z Z' : mv_Z} {I : mv_I} {v lo hi : Int64} {go : mv_S → Nat → ma_R}
theorem mg_new_D {q : Nat} (h : q < n ∨ n + 6 ≤ q) : (mg_new b n e).D q = b.D q := if_neg (by omega)
theorem mg_new_t {q : Nat} (hn : 575 ≤ n) (hi : i < 6) : mg_t (mg_new b n e).D (n + i) = mg_d (i + 1) := by
  rw [mg_th (by omega)]
  have : (mg_new b n e).D (n + i) = n + i - n + 1 := if_pos (by omega)
  rw [this, show n + i - n + 1 = i + 1 by omega]
theorem mg_new_o (hn : 575 ≤ n) : mg_o (mg_new b n e).D n := ⟨by omega, mg_new_t (q := 0) (i := 0) hn (by decide), mg_new_t (q := 0) (i := 1) hn (by decide), mg_new_t (q := 0) (i := 2) hn (by decide), mg_new_t (q := 0) (i := 3) hn (by decide), mg_new_t (q := 0) (i := 4) hn (by decide), mg_new_t (q := 0) (i := 5) hn (by decide)⟩
theorem hd_new (hn : 575 ≤ n) (hD : ∀ q, n ≤ q → b.D q = 0) (hS : mr_Sv f' n e) (hf : ∀ z, z < n ∨ n + 5 < z → f' z = hd b f0 z) : f' = hd (mg_new b n e) f0 := by
  have ho := mg_new_o (b := b) (e := e) hn
  obtain ⟨s0, s1, s2, s3, s4, s5, -⟩ := hS
  have eP : ∀ k, (mg_new b n e).P k n = if k = 0 then fun _ => e.1 else if k = 4 then e.2.2.2.2.2.1 else e.2.2.2.2.2.2 := fun k => if_pos rfl
  have eL : ∀ k, (mg_new b n e).L k n = if k = 0 then fun _ => e.2.1 else if k = 1 then e.2.2.1 else if k = 2 then e.2.2.2.1 else e.2.2.2.2.1 := fun k => if_pos rfl
  funext q
  by_cases h1 : q < n ∨ n + 5 < q
  · rw [hf q h1]
    have hDq : (mg_new b n e).D q = b.D q := mg_new_D (by omega)
    have ht : mg_t (mg_new b n e).D q = mg_t b.D q := by
      unfold mg_t
      rw [hDq]
    unfold hd
    by_cases h5 : q < 505
    · rw [if_pos h5, if_pos h5]
    · rw [if_neg h5, if_neg h5, ht]
      symm
      refine mg_c_o (by omega) rfl rfl rfl rfl (fun h8 => ?_) (fun k h7 _ hk1 hk6 => ?_) (fun k h7 _ hk1 hk6 => ?_)
      · by_cases hqn : q < n
        · unfold mg_f
          have e1 : (mg_new b n e).P 0 q = b.P 0 q := if_neg (by omega)
          have e2 : (mg_new b n e).L 0 q = b.L 0 q := if_neg (by omega)
          rw [e1, e2]
        · rw [mg_th (by omega), hD q (by omega)] at h8
          exact absurd h8 (by decide)
      · by_cases hqn : q < n
        · exact if_neg (by omega)
        · rw [mg_th (by omega), hD q (by omega)] at h7
          exact absurd h7 (by decide)
      · by_cases hqn : q < n
        · exact if_neg (by omega)
        · rw [mg_th (by omega), hD q (by omega)] at h7
          exact absurd h7 (by decide)
  · have hq : q = n ∨ q = n + 1 ∨ q = n + 2 ∨ q = n + 3 ∨ q = n + 4 ∨ q = n + 5 := by omega
    rcases hq with rfl | rfl | rfl | rfl | rfl | rfl
    · rw [s0, hd_8 ho]
      unfold mg_f
      rw [eP, eL]
      rfl
    · rw [s1, hd_L1 ho, eL]
      rfl
    · rw [s2, hd_L2 ho, eL]
      rfl
    · rw [s3, hd_L3 ho, eL]
      rfl
    · rw [s4, hd_P4 ho, eP]
      rfl
    · rw [s5, hd_P5 ho, eP]
      rfl
theorem mv_step_n5 {x : Nat} (h : mv_step tb lo hi Z = .error x) : ¬ x = 5 := by
  unfold mv_step at h
  generalize mv_E tb Z.S lo hi 100 = R at h
  rcases tb Z.S.at with ⟨op, A, B, D, u, x', y', z, t⟩
  unfold mv_s1 at h
  dsimp only at h
  repeat' split at h
  all_goals first | (cases h; decide) | cases h
theorem mv_red_n5 {x : Nat} : ∀ (t : Nat) (b : Bool) (Z : mv_Z), mv_red tb lo hi t b Z = .error x → ¬ x = 5 := by
  intro t
  induction t with
  | zero =>
    intro b Z h
    cases h
  | succ t ih =>
    intro b Z h
    rw [mv_red_s] at h
    cases hs : mv_step tb lo hi Z with
    | error y =>
      rw [hs] at h
      cases h
      exact mv_step_n5 hs
    | ok o =>
      rw [hs] at h
      cases o with
      | none => cases h
      | some Z1 => exact ih true Z1 h
theorem mv_red_t : ∀ (t : Nat) (Z : mv_Z) {bb : Bool}, mv_red tb lo hi t true Z = .ok (bb, Z') → bb = true := by
  intro t
  induction t with
  | zero =>
    intro Z bb h
    cases h
    rfl
  | succ t ih =>
    intro Z bb h
    rw [mv_red_s] at h
    cases hs : mv_step tb lo hi Z with
    | error y =>
      rw [hs] at h
      cases h
    | ok o =>
      rw [hs] at h
      cases o with
      | none =>
        cases h
        rfl
      | some Z1 => exact ih Z1 h
theorem mv_step_rd (hok : mz_ok tb N 100 0 Z.S.at) (htm : Z.S.tm = v) : mv_step tb v v Z = .ok none ↔ ma_rd tb Z.S = false := by
  subst htm
  refine ⟨ma_rd_n hok, fun h => ?_⟩
  have hso := (mz_un (k := 99) hok).2.1
  unfold ma_rd at h
  unfold mv_step
  rcases hcm : tb Z.S.at with ⟨op, A, B, D, v, x, y, z, u⟩
  rw [hcm] at h hso
  have ho := mz_so0 ⟨op, mz_so33 hso (by decide)⟩ hso
  dsimp only at ho h
  generalize mv_E tb Z.S Z.S.tm Z.S.tm 100 = R
  rcases ho with rfl | rfl | rfl | rfl | rfl | rfl | rfl
  · rw [if_pos rfl] at h
    rw [mv_s1_0, if_pos (Classical.not_not.mp (of_decide_eq_false h))]
  · rw [if_neg (by decide), if_neg (by decide)] at h
    cases h
  · rw [if_neg (by decide), if_neg (by decide)] at h
    cases h
  · rw [if_neg (by decide), if_neg (by decide)] at h
    cases h
  · rw [if_neg (by decide), if_pos rfl] at h
    rw [mv_s1_4, if_pos (Int64.not_le.mp (of_decide_eq_false h))]
  · rw [if_neg (by decide), if_neg (by decide)] at h
    cases h
  · rw [if_neg (by decide), if_neg (by decide)] at h
    cases h
/-- alone: nothing to be done, or another answer than 5 -/
theorem ma_tx_5 (hok : mz_ok tb N 100 0 S.at) : (ma_rd tb S = false → ma_tx tb bd 0 I S.tm S = .error 5) ∧ (ma_rd tb S = true → ¬ ma_tx tb bd 0 I S.tm S = .error 5) := by
  unfold ma_tx
  rw [mv_run_ok (Z := mv_z0 S (fun _ => 0)) Int64.lt_irrefl (show ¬ S.tm < S.tm from Int64.lt_irrefl)]
  have elo : mv_lo S.tm (mv_z0 S (fun _ => 0)).S.tm = S.tm := if_neg Int64.lt_irrefl
  rw [elo]
  have hrd : ma_rd tb ((mv_z0 S (fun _ => 0)).ti S.tm).S = ma_rd tb S := rfl
  have hst := mv_step_rd (v := S.tm) (Z := (mv_z0 S (fun _ => 0)).ti S.tm) hok rfl
  rw [hrd] at hst
  generalize (mv_z0 S (fun _ => 0)).ti S.tm = Z0 at *
  unfold mv_r2
  rw [mv_red_s]
  cases hs : mv_step tb S.tm S.tm Z0 with
  | error y =>
    refine ⟨fun h => ?_, fun _ h => ?_⟩
    · rw [hst.mpr h] at hs
      cases hs
    · dsimp only at h
      injection h with h
      exact mv_step_n5 hs h
  | ok o =>
    cases o with
    | none =>
      refine ⟨fun _ => rfl, fun h => ?_⟩
      rw [hst.mp hs] at h
      cases h
    | some Z1 =>
      refine ⟨fun h => ?_, fun _ h => ?_⟩
      · rw [hst.mpr h] at hs
        cases hs
      · dsimp only at h
        cases hr : mv_red tb S.tm S.tm 147 true Z1 with
        | error y =>
          rw [hr] at h
          dsimp only at h
          injection h with h
          exact mv_red_n5 147 true Z1 hr h
        | ok o =>
          obtain ⟨bb, Z2⟩ := o
          rw [hr] at h
          dsimp only at h
          have := mv_red_t 147 Z1 hr
          rw [if_neg (fun h => by rw [this] at h; exact Bool.noConfusion h.2)] at h
          cases h
/-- a step of time leads deeper -/
theorem ma_tx_tm (ht : mv_tok tb) (hS : mv_ok S) (hk : mz_ok tb N k 0 S.at) (h100 : k ≤ 100) (h4 : (tb S.at).1 = 4) (h : ma_tx tb bd 0 I (tb S.at).2.2.2.2.1 S = .ok Z') : ∃ k', k' < k ∧ mz_ok tb N k' 0 Z'.S.at := by
  generalize hvv : (tb S.at).2.2.2.2.1 = v at h
  unfold ma_tx at h
  by_cases h2 : v < S.tm
  · unfold mv_run at h
    rw [if_neg (Int64.lt_irrefl), if_pos (show v < (mv_z0 S (fun _ => 0)).S.tm from h2)] at h
    cases h
  · rw [mv_run_ok (Z := mv_z0 S (fun _ => 0)) Int64.lt_irrefl h2] at h
    have elo : mv_lo v (mv_z0 S (fun _ => 0)).S.tm = v := if_neg h2
    rw [elo] at h
    unfold mv_r2 at h
    have hJ0 : mv_J tb N k ((mv_z0 S (fun _ => 0)).ti v) := mv_J0 hS hk h100
    have hat : ((mv_z0 S (fun _ => 0)).ti v).S.at = S.at := rfl
    generalize (mv_z0 S (fun _ => 0)).ti v = Z0 at *
    have hs : mv_step tb v v Z0 = .ok (some (Z0.go (tb S.at).2.2.2.2.2.2.1)) := by
      unfold mv_step
      rw [hat]
      generalize mv_E tb Z0.S v v 100 = R
      rcases hcm : tb S.at with ⟨op, A, B, D, w, x, y, z, u⟩
      rw [hcm] at h4 hvv
      dsimp only at h4 hvv
      subst h4 hvv
      rw [mv_s1_4, if_neg Int64.lt_irrefl, if_neg Int64.lt_irrefl]
    rw [mv_red_s, hs] at h
    dsimp only at h
    obtain ⟨k1, J1, -, -, d1⟩ := mv_step_J ht hJ0 hs
    have hk1 : k1 < k := by
      rcases d1 with ⟨h0, -⟩ | d1
      · rw [hat, h4] at h0
        cases h0
      · exact d1
    cases hr : mv_red tb v v 147 true (Z0.go (tb S.at).2.2.2.2.2.2.1) with
    | error y =>
      rw [hr] at h
      cases h
    | ok o =>
      obtain ⟨bb, Z2⟩ := o
      rw [hr] at h
      dsimp only at h
      split at h
      · cases h
      · have h : (Except.ok Z2 : Except Nat mv_Z) = .ok Z' := h
        cases h
        obtain ⟨k2, J2, -, d2⟩ := mv_red_J ht 147 true k1 _ J1 hr
        exact ⟨k2, by rcases d2 with d | ⟨d, -⟩ <;> omega, J2.2.2.1⟩
theorem ma_tr_app : ∀ (l1 : List ma_P) {l2 : List ma_P} (c : Nat), ma_tr tb bd go S (l1 ++ l2) c = if (ma_tr tb bd go S l1 c).1 = 0 then ma_tr tb bd go S l2 (ma_tr tb bd go S l1 c).2.1 else ma_tr tb bd go S l1 c := by
  intro l1
  induction l1 with
  | nil =>
    intro l2 c
    rfl
  | cons s l ih =>
    intro l2 c
    rw [List.cons_append, ma_tr_s, ma_tr_s]
    by_cases h0 : (ma_st tb bd go S s c).1 = 0
    · rw [if_pos h0, if_pos h0]
      exact ih _
    · rw [if_neg h0, if_neg h0, if_neg h0]
end
