/-! the analyser: which steps, in which order -/
/-- a step: its kind, its number, its action (0: none), whether its amount is LARGE -/
abbrev ma_P : Type := Nat × Int64 × Nat × Bool
def ma_ct (p : Int64 × Int64) : Nat := (p.2.toInt - p.1.toInt + 1).toNat
/-- how many numbers, and the r-th of them -/
def ma_tt (bd : Nat → Int64 × Int64) : Nat → Nat → Nat
  | 0, _ => 0
  | t + 1, j => ma_ct (bd j) + ma_tt bd t (j + 1)
def ma_at (bd : Nat → Int64 × Int64) : Nat → Nat → Nat → Int64
  | 0, _, _ => 0
  | t + 1, j, r => if r < ma_ct (bd j) then (bd j).1 + Int64.ofNat r else ma_at bd t (j + 1) (r - ma_ct (bd j))
def ma_cl (bd : Nat → Int64 × Int64) (m M F : Nat) : Nat → Nat → List ma_P
  | 0, _ => []
  | t + 1, r => (2, ma_at bd M F r, m, false) :: ma_cl bd m M F t (r + 1)
def ma_in (tb : Nat → ms_N) (m : Nat) (v : Int64) : mv_I := ((tb m).1, (tb m).2.1, (tb m).2.2.1, (tb m).2.2.2.1, v)
def ma_tx (tb : Nat → ms_N) (bd : Nat → Int64 × Int64) (many : Nat) (I : mv_I) (t : Int64) (S : mv_S) : Except Nat mv_Z := mv_run tb bd false many (fun _ => I) t t (mv_z0 S (fun _ => 0))
/-- what comes of a step -/
def ma_ou (tb : Nat → ms_N) (bd : Nat → Int64 × Int64) (S : mv_S) (s : ma_P) : Except Nat mv_Z := if s.1 = 1 ∧ s.2.2.2 = true then .error 6 else ma_tx tb bd (if s.2.2.1 = 0 then 0 else 1) (ma_in tb s.2.2.1 s.2.1) (if s.1 = 4 then s.2.1 else S.tm) S
/-- the steps of an action, but for the first j numbers of a choice -/
def ma_ac (bd : Nat → Int64 × Int64) (R : mv_R) (m j : Nat) : ms_N → List ma_P
  | (op, _, _, _, _, x, _, _, M, F) => if op = 7 then (match R.1 x with
      | none => [(1, 0, m, true)]
      | some v => [(1, v, m, false)])
    else if op = 8 then ma_cl bd m M F (ma_tt bd M F - j) j
    else (match R.2 x with
      | none => [(3, 0, m, true)]
      | some true => [(3, 0, m, false)]
      | some false => [])
def ma_as (tb : Nat → ms_N) (bd : Nat → Int64 × Int64) (R : mv_R) : Nat → Nat → Nat → List ma_P
  | 0, _, _ => []
  | t + 1, m, j => if m = 0 then [] else ma_ac bd R m j (tb m) ++ ma_as tb bd R t (tb m).2.2.2.2.2.2.2.1 0
def ma_rd (tb : Nat → ms_N) (S : mv_S) : Bool := if (tb S.at).1 = 0 then decide (¬ mv_ff S.ac 32 0 = 32) else if (tb S.at).1 = 4 then decide ((tb S.at).2.2.2.2.1 ≤ S.tm) else true
def ma_wh (tb : Nat → ms_N) (bd : Nat → Int64 × Int64) (S : mv_S) (t m j : Nat) : List ma_P := ma_as tb bd (mv_E tb S S.tm S.tm 100) t m j ++ [(4, (tb S.at).2.2.2.2.1, 0, false)]
def ma_sp (tb : Nat → ms_N) (bd : Nat → Int64 × Int64) (S : mv_S) : List ma_P := if ma_rd tb S = true then [(0, 0, 0, false)] else if (tb S.at).1 = 4 then ma_wh tb bd S 8 (tb S.at).2.2.2.2.2.1 0 else []
/-- what comes of a search: how (0 clean, 1 found, 2 fuel), how many steps were looked at, the way -/
abbrev ma_R : Type := Nat × Nat × List (Nat × Int64 × Nat)
def ma_st (tb : Nat → ms_N) (bd : Nat → Int64 × Int64) (go : mv_S → Nat → ma_R) (S : mv_S) (s : ma_P) (c : Nat) : ma_R := if 5000 < c + 1 then (2, c + 1, []) else match ma_ou tb bd S s with
  | .error _ => (0, c + 1, [])
  | .ok Z => if 0 < Z.ws.1 then (1, c + 1, [(s.1, s.2.1, s.2.2.1)]) else ((go Z.S (c + 1)).1, (go Z.S (c + 1)).2.1, (s.1, s.2.1, s.2.2.1) :: (go Z.S (c + 1)).2.2)
def ma_tr (tb : Nat → ms_N) (bd : Nat → Int64 × Int64) (go : mv_S → Nat → ma_R) (S : mv_S) : List ma_P → Nat → ma_R
  | [], c => (0, c, [])
  | s :: l, c => if (ma_st tb bd go S s c).1 = 0 then ma_tr tb bd go S l (ma_st tb bd go S s c).2.1 else ma_st tb bd go S s c
def ma_go (tb : Nat → ms_N) (bd : Nat → Int64 × Int64) : Nat → mv_S → Nat → ma_R
  | 0, _, c => (0, c, [])
  | k + 1, S, c => ma_tr tb bd (ma_go tb bd k) S (ma_sp tb bd S) c
/-- no choice below has too many numbers -/
def mo_nl (tb : Nat → ms_N) (bd : Nat → Int64 × Int64) (R : Nat → Prop) : Nat → Nat → Prop
  | 0, _ => True
  | t + 1, m => m = 0 ∨ (((tb m).1 = 8 → ma_tt bd (tb m).2.2.2.2.2.2.2.2.1 (tb m).2.2.2.2.2.2.2.2.2 ≤ 16) ∧ R (tb m).2.2.2.2.2.2.1 ∧ mo_nl tb bd R t (tb m).2.2.2.2.2.2.2.1)
def mo_nb (tb : Nat → ms_N) (bd : Nat → Int64 × Int64) : Nat → Nat → Prop
  | 0, _ => True
  | k + 1, m => ((tb m).1 = 4 → mo_nl tb bd (mo_nb tb bd k) 8 (tb m).2.2.2.2.2.1) ∧ (¬ (tb m).1 = 0 → mo_nb tb bd k (tb m).2.2.2.2.2.2.1) ∧ ((tb m).1 = 3 → mo_nb tb bd k (tb m).2.2.2.2.2.2.2.1)
section
variable {N m k t j i op A B D x y z many : Nat} {tb : Nat → ms_N} {lo hi v u from1 to1 : Int64} {Z Z' : mv_Z} {bd : Nat → Int64 × Int64} {I : mv_I} {wal : Bool} {R : mv_R} {S : mv_S} {ins : Nat → mv_I} {b b' : Bool}
theorem ma_rd_n {Z : mv_Z} (hok : mz_ok tb N 100 0 Z.S.at) (h : mv_step tb Z.S.tm Z.S.tm Z = .ok none) : ma_rd tb Z.S = false := by
  unfold mv_step at h
  have hso := (mz_un (k := 99) hok).2.1
  unfold ma_rd
  rcases hcm : tb Z.S.at with ⟨op, A, B, D, v, x, y, z, u⟩
  rw [hcm] at h hso
  have ho := mz_so0 ⟨op, mz_so33 hso (by decide)⟩ hso
  dsimp only at ho
  generalize mv_E tb Z.S Z.S.tm Z.S.tm 100 = R at h
  rcases ho with rfl | rfl | rfl | rfl | rfl | rfl | rfl
  · rw [mv_s1_0] at h
    dsimp only
    rw [if_pos rfl]
    split at h
    · rename_i h32
      exact decide_eq_false (fun h => h h32)
    · cases h
  · rw [mv_s1_1] at h
    split at h
    · cases h
    · split at h <;> cases h
  · rw [mv_s1_2] at h
    split at h
    · cases h
    · split at h <;> cases h
  · rw [mv_s1_3] at h
    split at h <;> cases h
  · rw [mv_s1_4] at h
    dsimp only
    rw [if_neg (by decide), if_pos rfl]
    split at h
    · rename_i hlt
      exact decide_eq_false (Int64.not_le.mpr hlt)
    · first | cases h | (split at h <;> cases h)
  · rw [mv_s1_5] at h
    split at h <;> cases h
  · rw [mv_s1_6] at h
    split at h <;> cases h
theorem mv_step_at (hok : mz_ok tb N 100 0 Z.S.at) (h : mv_step tb lo hi Z = .ok (some Z')) : Z'.S.tm = Z.S.tm ∧ (((tb Z.S.at).1 = 0 ∧ Z'.S.at = Z.S.at) ∨ (¬ (tb Z.S.at).1 = 0 ∧ Z'.S.at = (tb Z.S.at).2.2.2.2.2.2.1) ∨ ((tb Z.S.at).1 = 3 ∧ Z'.S.at = (tb Z.S.at).2.2.2.2.2.2.2.1)) := by
  unfold mv_step at h
  have hso := (mz_un (k := 99) hok).2.1
  rcases hcm : tb Z.S.at with ⟨op, A, B, D, v, x, y, z, u⟩
  rw [hcm] at h hso
  have ho := mz_so0 ⟨op, mz_so33 hso (by decide)⟩ hso
  dsimp only at ho
  generalize mv_E tb Z.S lo hi 100 = R at h
  have hp1 : ∀ {op w m}, (mv_pay op A B D y m Z w).1.S.tm = Z.S.tm ∧ (mv_pay op A B D y m Z w).1.S.at = y := by
    intro op w m
    have q1 : (mv_p1 A D y m Z w).S.tm = Z.S.tm ∧ (mv_p1 A D y m Z w).S.at = y := by
      unfold mv_p1
      dsimp only
      split
      · rw [mv_wn_S]
        exact ⟨rfl, rfl⟩
      · exact ⟨rfl, rfl⟩
    unfold mv_pay
    split
    · dsimp only
      rw [mv_wn_S]
      exact ⟨rfl, rfl⟩
    · unfold mv_p2
      split
      · dsimp only
        split
        · exact q1
        · rw [mv_py_S]
          exact q1
      · exact q1
  dsimp only
  rcases ho with rfl | rfl | rfl | rfl | rfl | rfl | rfl
  · rw [mv_s1_0] at h
    split at h
    · cases h
    · cases h
      unfold mv_cl
      show (Z.py _ _ _ _).S.tm = _ ∧ ((_ ∧ (Z.py _ _ _ _).S.at = _) ∨ _)
      rw [mv_py_S]
      exact ⟨rfl, Or.inl ⟨rfl, rfl⟩⟩
  · rw [mv_s1_1] at h
    split at h
    · cases h
    · split at h
      · cases h
        exact ⟨hp1.1, Or.inr (Or.inl ⟨by decide, hp1.2⟩)⟩
      · cases h
  · rw [mv_s1_2] at h
    split at h
    · cases h
    · split at h
      · cases h
        exact ⟨hp1.1, Or.inr (Or.inl ⟨by decide, hp1.2⟩)⟩
      · cases h
  · rw [mv_s1_3] at h
    split at h
    · cases h
    · rename_i bb hb
      cases h
      refine ⟨rfl, ?_⟩
      cases bb
      · exact Or.inr (Or.inr ⟨rfl, rfl⟩)
      · exact Or.inr (Or.inl ⟨by decide, rfl⟩)
  · rw [mv_s1_4] at h
    split at h
    · cases h
    · split at h
      · cases h
      · cases h
        exact ⟨rfl, Or.inr (Or.inl ⟨by decide, rfl⟩)⟩
  · rw [mv_s1_5] at h
    split at h
    · cases h
    · cases h
      refine ⟨?_, Or.inr (Or.inl ⟨by decide, rfl⟩)⟩
      unfold mv_let
      dsimp only
      split
      · show (Z.wn _ _).S.tm = _
        rw [mv_wn_S]
      · rfl
  · rw [mv_s1_6] at h
    split at h
    · cases h
    · cases h
      refine ⟨?_, Or.inr (Or.inl ⟨by decide, rfl⟩)⟩
      unfold mv_ass
      split
      · rfl
      · show (Z.wn _ _).S.tm = _
        rw [mv_wn_S]
/-- an input leads to what stands behind an action of the list -/
theorem mv_acc_at {c : ms_N} (h : mv_acc wal m v Z c = .ok Z') : Z'.S.tm = Z.S.tm ∧ Z'.S.at = c.2.2.2.2.2.2.1 := by
  rcases c with ⟨op, A, B, D, u, x, y, z, t⟩
  unfold mv_acc at h
  dsimp only at h
  split at h
  · cases h
    exact ⟨rfl, rfl⟩
  split at h
  · cases h
    exact ⟨rfl, rfl⟩
  split at h
  · cases h
    refine ⟨?_, rfl⟩
    show (Z.wn _ _).S.tm = _
    rw [mv_wn_S]
  split at h
  · cases h
  split at h
  · cases h
    refine ⟨?_, rfl⟩
    split <;> rfl
  · cases h
theorem mv_tks_at {P : Nat → Prop} : ∀ (t m : Nat), mo_nl tb bd P t m → mv_tks tb bd wal R I Z t m = .ok Z' → Z'.S.tm = Z.S.tm ∧ P Z'.S.at := by
  intro t
  induction t with
  | zero =>
    intro m _ h
    cases h
  | succ t ih =>
    intro m hl h
    rw [mv_tks_s] at h
    split at h
    · cases h
    · rename_i hm0
      have hl' : m = 0 ∨ _ := hl
      obtain ⟨-, hp, hn⟩ := hl'.resolve_left hm0
      cases hf : mv_fits bd R I (tb m) with
      | none =>
        rw [hf] at h
        cases h
      | some bb =>
        rw [hf] at h
        cases bb with
        | false => exact ih _ hn h
        | true =>
          have := mv_acc_at h
          exact ⟨this.1, by rw [this.2]; exact hp⟩
theorem mo_nl_all {bb : Nat → Nat → Prop} : ∀ (t m : Nat), (∀ k, mo_nl tb bd (bb k) t m) → mo_nl tb bd (fun m => ∀ k, bb k m) t m := by
  intro t
  induction t with
  | zero =>
    intro m _
    exact trivial
  | succ t ih =>
    intro m h
    by_cases hm0 : m = 0
    · exact Or.inl hm0
    · have h' : ∀ k, _ := fun k => (show m = 0 ∨ _ from h k).resolve_left hm0
      exact Or.inr ⟨(h' 0).1, fun k => (h' k).2.1, ih _ (fun k => (h' k).2.2)⟩
def mo_NB (tb : Nat → ms_N) (bd : Nat → Int64 × Int64) (m : Nat) : Prop := ∀ k, mo_nb tb bd k m
theorem mo_NB_l (h : mo_NB tb bd m) (h4 : (tb m).1 = 4) : mo_nl tb bd (mo_NB tb bd) 8 (tb m).2.2.2.2.2.1 := mo_nl_all (bb := mo_nb tb bd) 8 _ (fun k => (h (k + 1)).1 h4)
theorem mv_red_at : ∀ (t : Nat) (b : Bool) (Z : mv_Z), mv_ok Z.S → mv_tok tb → mz_ok tb N 100 0 Z.S.at → mo_NB tb bd Z.S.at → mv_red tb lo hi t b Z = .ok (b', Z') → Z'.S.tm = Z.S.tm ∧ mo_NB tb bd Z'.S.at := by
  intro t
  induction t with
  | zero =>
    intro b Z hS ht hok hb h
    cases h
    exact ⟨rfl, hb⟩
  | succ t ih =>
    intro b Z hS ht hok hb h
    rw [mv_red_s] at h
    cases hs : mv_step tb lo hi Z with
    | error e =>
      rw [hs] at h
      cases h
    | ok o =>
      rw [hs] at h
      cases o with
      | none =>
        cases h
        exact ⟨rfl, hb⟩
      | some Z1 =>
        obtain ⟨h1, h2⟩ := mv_step_ok hS ht hok hs
        obtain ⟨e1, e2⟩ := mv_step_at hok hs
        have hb1 : mo_NB tb bd Z1.S.at := by
          rcases e2 with ⟨-, e⟩ | ⟨ho, e⟩ | ⟨ho, e⟩
          · rw [e]
            exact hb
          · rw [e]
            exact fun k => (hb (k + 1)).2.1 ho
          · rw [e]
            exact fun k => (hb (k + 1)).2.2 ho
        obtain ⟨f1, f2⟩ := ih true Z1 h1 ht h2 hb1 h
        exact ⟨f1.trans e1, f2⟩
theorem mv_take_at (hb : mo_NB tb bd Z.S.at) (h : mv_take tb bd wal lo hi I Z = .ok Z') : Z'.S.tm = Z.S.tm ∧ mo_NB tb bd Z'.S.at := by
  unfold mv_take at h
  split at h
  · rename_i h4
    exact mv_tks_at 8 _ (mo_NB_l hb h4) h
  · cases h
end
