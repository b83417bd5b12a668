/-! what lies outside; nodes that can be reached -/
def mo_bad (tb : Nat → ms_N) (bd : Nat → Int64 × Int64) (i : Nat) : Prop := (tb i).1 = 19 ∨ (tb i).1 = 20 ∨ ((tb i).1 = 8 ∧ 16 < ma_tt bd (tb i).2.2.2.2.2.2.2.2.1 (tb i).2.2.2.2.2.2.2.2.2)
def mo_any (tb : Nat → ms_N) (bd : Nat → Int64 × Int64) (a b : Nat) : Prop := ∃ i, a ≤ i ∧ i < b ∧ mo_bad tb bd i
def mo_R (tb : Nat → ms_N) (N m : Nat) : Prop := ∃ k e, k ≤ 100 ∧ e ≤ N ∧ mo_c tb k m e
def mo_ls (tb : Nat → ms_N) (P : Nat → Prop) : Nat → Nat → Prop
  | 0, _ => True
  | t + 1, m => m = 0 ∨ (P (tb m).2.2.2.2.2.2.1 ∧ mo_ls tb P t (tb m).2.2.2.2.2.2.2.1)
section
variable {N m k t j i e x s : Nat} {tb : Nat → ms_N} {lo hi v u from1 to1 : Int64} {Z Z' : mv_Z} {bd : Nat → Int64 × Int64} {I : mv_I} {wal : Bool} {R : mv_R} {S : mv_S} {ins : Nat → mv_I} {b b' : Bool} {P : Nat → Prop} {many : Nat} {w : Nat → Int64}
theorem mo_any_1 : mo_any tb bd m (m + 1) ↔ mo_bad tb bd m := ⟨fun ⟨i, h1, h2, h3⟩ => by rw [show m = i by omega]; exact h3, fun h => ⟨m, Nat.le_refl _, by omega, h⟩⟩
theorem mo_any_j {a b c : Nat} (h1 : a ≤ b) (h2 : b ≤ c) : mo_any tb bd a c ↔ (mo_any tb bd a b ∨ mo_any tb bd b c) := by
  refine ⟨fun ⟨i, g1, g2, g3⟩ => ?_, fun h => ?_⟩
  · by_cases h : i < b
    · exact Or.inl ⟨i, g1, h, g3⟩
    · exact Or.inr ⟨i, by omega, g2, g3⟩
  · rcases h with ⟨i, g1, g2, g3⟩ | ⟨i, g1, g2, g3⟩
    · exact ⟨i, g1, by omega, g3⟩
    · exact ⟨i, by omega, g2, g3⟩
theorem mo_any_sub {a b c d : Nat} (h : ¬ mo_any tb bd a d) (h1 : a ≤ b) (h2 : c ≤ d) : ¬ mo_any tb bd b c := fun ⟨i, g1, g2, g3⟩ => h ⟨i, by omega, by omega, g3⟩
theorem mo_a_nl {K : Nat → Prop} {V C : Nat → Nat → Prop} (hV : ∀ m e, V m e → m < e) (hC : ∀ m e, C m e → m < e) : ∀ (t x s e : Nat), (∀ m' e', s ≤ m' → e' ≤ e → C m' e' → K m') → ¬ mo_any tb bd s e → mo_a tb V C t x s e → mo_nl tb bd K t x := by
  intro t
  induction t with
  | zero =>
    intro x s e _ _ _
    exact trivial
  | succ t ih =>
    intro x s e hK hn h
    have hse := mo_a_le hV hC (t + 1) x s e h
    rcases h with ⟨h, -⟩ | ⟨h0, h00, h1, e2, h2, h3⟩
    · exact Or.inl h
    · have l2 := hC _ _ h2
      have l3 := mo_a_le hV hC _ _ _ _ h3
      have l1 : s < (tb s).2.2.2.2.2.2.1 := by
        rcases h1 with ⟨-, h1⟩ | ⟨-, -, h1⟩
        · omega
        · have := hV _ _ h1
          omega
      subst h0
      refine Or.inr ⟨fun h8 => Nat.not_lt.mp (fun hb => hn ⟨x, Nat.le_refl _, by omega, Or.inr (Or.inr ⟨h8, hb⟩)⟩), hK _ _ (by omega) (by omega) h2, ih _ _ _ (fun m' e' g1 g2 => hK m' e' (by omega) g2) (mo_any_sub hn (by omega) (Nat.le_refl _)) h3⟩
theorem mo_c_nb : ∀ (k m e : Nat), mo_c tb k m e → ¬ mo_any tb bd m e → ∀ q, mo_nb tb bd q m := by
  intro k
  induction k with
  | zero =>
    intro m e h
    exact h.elim
  | succ k ih =>
    intro m e h hn q
    cases q with
    | zero => exact trivial
    | succ q =>
      rcases h with ⟨h0, h⟩ | ⟨h0, hx, h1, h2⟩ | ⟨h0, hx, h1, h2, h3⟩ | ⟨h0, h1, h2⟩
      · exact ⟨fun h => absurd (h0.symm.trans h) (by decide), fun h => absurd h0 h, fun h => absurd (h0.symm.trans h) (by decide)⟩
      · have l1 := mo_v_lt _ _ _ h1
        exact ⟨fun h => by omega, fun _ => ih _ _ h2 (mo_any_sub hn (by omega) (Nat.le_refl _)) q, fun h => by omega⟩
      · have l1 := mo_v_lt _ _ _ h1
        have l2 := mo_c_lt _ _ _ h2
        have l3 := mo_c_lt _ _ _ h3
        exact ⟨fun h => by omega, fun _ => ih _ _ h2 (mo_any_sub hn (by omega) (by omega)) q, fun _ => ih _ _ h3 (mo_any_sub hn (by omega) (Nat.le_refl _)) q⟩
      · have l1 := mo_a_le (mo_v_lt k) (mo_c_lt k) _ _ _ _ h1
        have l2 := mo_c_lt _ _ _ h2
        exact ⟨fun _ => mo_a_nl (mo_v_lt k) (mo_c_lt k) _ _ _ _ (fun m' e' g1 g2 g => ih m' e' g (mo_any_sub hn (by omega) (by omega)) q) (mo_any_sub hn (by omega) (by omega)) h1, fun _ => ih _ _ h2 (mo_any_sub hn (by omega) (Nat.le_refl _)) q, fun h => by omega⟩
/-- properties of nodes that stay along the way -/
def mo_cp (tb : Nat → ms_N) (P : Nat → Prop) : Prop := ∀ m, P m → (¬ (tb m).1 = 0 → P (tb m).2.2.2.2.2.2.1) ∧ ((tb m).1 = 3 → P (tb m).2.2.2.2.2.2.2.1) ∧ ((tb m).1 = 4 → mo_ls tb P 8 (tb m).2.2.2.2.2.1)
theorem mv_tks_p : ∀ (t m : Nat), mo_ls tb P t m → mv_tks tb bd wal R I Z t m = .ok Z' → P Z'.S.at := by
  intro t
  induction t with
  | zero =>
    intro m _ h
    cases h
  | succ t ih =>
    intro m hl h
    rw [mv_tks_s] at h
    split at h
    · cases h
    · rename_i hm0
      have hl' : m = 0 ∨ _ := hl
      obtain ⟨hp, hn⟩ := hl'.resolve_left hm0
      cases hf : mv_fits bd R I (tb m) with
      | none =>
        rw [hf] at h
        cases h
      | some bb =>
        rw [hf] at h
        cases bb with
        | false => exact ih _ hn h
        | true => rw [(mv_acc_at h).2]; exact hp
theorem mv_red_p (hP : mo_cp tb P) : ∀ (t : Nat) (b : Bool) (Z : mv_Z), mv_ok Z.S → mv_tok tb → mz_ok tb N 100 0 Z.S.at → P Z.S.at → mv_red tb lo hi t b Z = .ok (b', Z') → P Z'.S.at := by
  intro t
  induction t with
  | zero =>
    intro b Z hS ht hok hb h
    cases h
    exact hb
  | succ t ih =>
    intro b Z hS ht hok hb h
    rw [mv_red_s] at h
    cases hs : mv_step tb lo hi Z with
    | error e =>
      rw [hs] at h
      cases h
    | ok o =>
      rw [hs] at h
      cases o with
      | none =>
        cases h
        exact hb
      | some Z1 =>
        obtain ⟨h1, h2⟩ := mv_step_ok hS ht hok hs
        obtain ⟨e1, e2⟩ := mv_step_at hok hs
        have hb1 : P Z1.S.at := by
          rcases e2 with ⟨-, e⟩ | ⟨ho, e⟩ | ⟨ho, e⟩
          · rw [e]
            exact hb
          · rw [e]
            exact (hP _ hb).1 ho
          · rw [e]
            exact (hP _ hb).2.1 ho
        exact ih true Z1 h1 ht h2 hb1 h
theorem mv_ins_p (hP : mo_cp tb P) (ht : mv_tok tb) (hb : ∀ j, mv_in (bd j).1 ∧ mv_in (bd j).2) : ∀ (t i k : Nat) (Z : mv_Z), mv_J tb N k Z → P Z.S.at → mv_ins tb bd wal lo hi ins t i Z = .ok Z' → P Z'.S.at := by
  intro t
  induction t with
  | zero =>
    intro i k Z _ hp h
    cases h
    exact hp
  | succ t ih =>
    intro i k Z hJ hp h
    unfold mv_ins at h
    cases h1 : mv_take tb bd wal lo hi (ins i) Z with
    | error e =>
      rw [h1] at h
      cases h
    | ok Z1 =>
      rw [h1] at h
      dsimp only at h
      obtain ⟨k1, j1, -⟩ := mv_take_J hJ hb h1
      have p1 : P Z1.S.at := by
        unfold mv_take at h1
        split at h1
        · rename_i h4
          exact mv_tks_p 8 _ ((hP _ hp).2.2 h4) h1
        · cases h1
      cases h2 : mv_red tb lo hi 148 false Z1 with
      | error e =>
        rw [h2] at h
        cases h
      | ok o =>
        obtain ⟨b2, Z2⟩ := o
        rw [h2] at h
        obtain ⟨k2, j2, -, -⟩ := mv_red_J ht 148 false k1 Z1 j1 h2
        exact ih (i + 1) k2 Z2 j2 (mv_red_p hP 148 false Z1 j1.1 ht (mz_ok_le j1.2.2.2.1 j1.2.2.1) p1 h2) h
theorem mv_run_p (hP : mo_cp tb P) (ht : mv_tok tb) (hb : ∀ j, mv_in (bd j).1 ∧ mv_in (bd j).2) (hS : mv_ok S) (hk : mz_ok tb N 100 0 S.at) (hp : P S.at) (hs : mv_run tb bd wal many ins from1 to1 (mv_z0 S w) = .ok Z') : P Z'.S.at := by
  unfold mv_run at hs
  split at hs
  · cases hs
  split at hs
  · cases hs
  have hJ0 : mv_J tb N 100 ((mv_z0 S w).ti (mv_lo from1 (mv_z0 S w).S.tm)) := mv_J0 hS hk (Nat.le_refl _)
  cases h1 : mv_red tb (mv_lo from1 (mv_z0 S w).S.tm) to1 148 false ((mv_z0 S w).ti (mv_lo from1 (mv_z0 S w).S.tm)) with
  | error e =>
    rw [h1] at hs
    cases hs
  | ok o =>
    obtain ⟨b1, Z1⟩ := o
    rw [h1] at hs
    dsimp only at hs
    split at hs
    · cases hs
    · obtain ⟨k1, j1, -, -⟩ := mv_red_J ht 148 false 100 _ hJ0 h1
      exact mv_ins_p hP ht hb many 0 k1 Z1 j1 (mv_red_p hP 148 false _ hJ0.1 ht hk hp h1) hs
theorem mo_a_ls {K : Nat → Prop} {V C : Nat → Nat → Prop} (hV : ∀ m e, V m e → m < e) (hC : ∀ m e, C m e → m < e) : ∀ (t x s e : Nat), (∀ m' e', e' ≤ e → C m' e' → K m') → mo_a tb V C t x s e → mo_ls tb K t x := by
  intro t
  induction t with
  | zero =>
    intro x s e _ _
    exact trivial
  | succ t ih =>
    intro x s e hK h
    rcases h with ⟨h, -⟩ | ⟨h0, h00, h1, e2, h2, h3⟩
    · exact Or.inl h
    · have l3 := mo_a_le hV hC _ _ _ _ h3
      subst h0
      exact Or.inr ⟨hK _ _ l3 h2, ih _ _ _ hK h3⟩
theorem mo_R_cp : mo_cp tb (mo_R tb N) := by
  intro m hm
  obtain ⟨k, e, hk, he, h⟩ := hm
  cases k with
  | zero => exact h.elim
  | succ k =>
    rcases h with ⟨h0, h⟩ | ⟨h0, hx, h1, h2⟩ | ⟨h0, hx, h1, h2, h3⟩ | ⟨h0, h1, h2⟩
    · exact ⟨fun h => absurd h0 h, fun h => absurd (h0.symm.trans h) (by decide), fun h => absurd (h0.symm.trans h) (by decide)⟩
    · exact ⟨fun _ => ⟨k, e, by omega, he, h2⟩, fun h => by omega, fun h => by omega⟩
    · have l3 := mo_c_lt _ _ _ h3
      exact ⟨fun _ => ⟨k, _, by omega, by omega, h2⟩, fun _ => ⟨k, e, by omega, he, h3⟩, fun h => by omega⟩
    · have l2 := mo_c_lt _ _ _ h2
      exact ⟨fun _ => ⟨k, e, by omega, he, h2⟩, fun h => by omega, fun _ => mo_a_ls (mo_v_lt k) (mo_c_lt k) _ _ _ _ (fun m' e' g1 g => ⟨k, e', by omega, by omega, g⟩) h1⟩
end
