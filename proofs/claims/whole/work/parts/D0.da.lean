/-! reckoning: a function of the nodes, of a state and of an interval -/
abbrev mv_in (v : Int64) : Prop := -4611686018427387904 ≤ v.toInt ∧ v.toInt ≤ 4611686018427387904
def mv_fit (v : Int64) : Option Int64 := if mv_in v then some v else none
def mv_mul (x y : Int64) : Option Int64 := if -4611686018427387904 ≤ x.toInt * y.toInt ∧ x.toInt * y.toInt ≤ 4611686018427387904 then some (x * y) else none
def mv_two (op : Nat) (x y : Int64) : Option Int64 := if op = 13 then mv_fit (x + y) else if op = 14 then mv_fit (x - y) else if op = 15 then mv_mul x y else some (if y = 0 then 0 else x / y)
def mv_cmp (op : Nat) (x y : Int64) : Bool := if op = 28 then decide (y ≤ x) else if op = 29 then decide (y < x) else if op = 30 then decide (x ≤ y) else if op = 31 then decide (x < y) else decide (x = y)
/-- a state: node, time, accounts, what was chosen, what was used -/
abbrev mv_S : Type := Nat × Int64 × (Nat → Int64) × (Nat → Option Int64) × (Nat → Option Int64)
def mv_S.at (S : mv_S) : Nat := S.1
def mv_S.tm (S : mv_S) : Int64 := S.2.1
def mv_S.ac (S : mv_S) : Nat → Int64 := S.2.2.1
def mv_S.ch (S : mv_S) : Nat → Option Int64 := S.2.2.2.1
def mv_S.us (S : mv_S) : Nat → Option Int64 := S.2.2.2.2
abbrev mv_R : Type := (Nat → Option Int64) × (Nat → Option Bool)
def mv_v (S : mv_S) (lo hi : Int64) (r : mv_R) : ms_N → Option Int64
  | (op, a, _, d, v, x, y, z, _) => if op = 10 then some v else if op = 11 then some (S.ac (a * 4 + d)) else if op = 12 then (r.1 x).map (fun v => -v) else if op = 17 then some ((S.ch a).getD 0) else if op = 18 then some ((S.us a).getD 0) else if op = 19 then mv_fit lo else if op = 20 then mv_fit hi else if op = 21 then (r.2 x).bind (fun b => r.1 (if b = true then y else z)) else (r.1 x).bind (fun u => (r.1 y).bind (fun w => mv_two op u w))
def mv_t (S : mv_S) (r : mv_R) : ms_N → Option Bool
  | (op, a, _, _, _, x, y, _) => if op = 22 then some true else if op = 23 then some false else if op = 24 then (r.2 x).bind (fun u => (r.2 y).bind (fun w => some (u && w))) else if op = 25 then (r.2 x).bind (fun u => (r.2 y).bind (fun w => some (u || w))) else if op = 26 then (r.2 x).map (fun u => !u) else if op = 27 then some (S.ch a).isSome else (r.1 x).bind (fun u => (r.1 y).bind (fun w => some (mv_cmp op u w)))
def mv_E (tb : Nat → ms_N) (S : mv_S) (lo hi : Int64) : Nat → mv_R
  | 0 => (fun _ => none, fun _ => none)
  | k + 1 => (fun m => mv_v S lo hi (mv_E tb S lo hi k) (tb m), fun m => mv_t S (mv_E tb S lo hi k) (tb m))
/-- what a reckoning gives: a flag of LARGE before, what comes back, the flag behind it -/
def cvo {α β : Type} (e : α → β) (o : Option α) (l : Bool) (r : β) (l' : Bool) : Prop := match l with
  | true => l' = true
  | false => match o with
    | some v => l' = false ∧ r = e v
    | none => l' = true
section
variable {α β γ δ ε ζ : Type} {e1 : α → β} {e2 : γ → δ} {e3 : ε → ζ} {o1 : Option α} {o2 : Option γ} {l1 l2 l3 : Bool} {r1 : β} {r2 : δ} {r3 : ζ}
theorem cvo_s {v : α} : cvo e1 (some v) false (e1 v) false := ⟨rfl, rfl⟩
theorem cvo_2 {F : α → γ → Option ε} (c1 : cvo e1 o1 false r1 l1) (c2 : cvo e2 o2 l1 r2 l2) (c3 : l2 = true → l3 = true) (c4 : ∀ u w, o1 = some u → o2 = some w → r1 = e1 u → r2 = e2 w → l2 = false → cvo e3 (F u w) l2 r3 l3) : cvo e3 (o1.bind (fun u => o2.bind (fun w => F u w))) false r3 l3 := by
  cases o1 with
  | none =>
    have h1 : l1 = true := c1
    subst h1
    have h2 : l2 = true := c2
    exact c3 h2
  | some u =>
    have h1 : l1 = false ∧ r1 = e1 u := c1
    obtain ⟨h1, hr⟩ := h1
    subst h1
    cases o2 with
    | none =>
      have h2 : l2 = true := c2
      exact c3 h2
    | some w =>
      have h2 : l2 = false ∧ r2 = e2 w := c2
      have := c4 u w rfl rfl hr h2.2 h2.1
      rw [h2.1] at this
      exact this
theorem cvo_1 {F : α → Option ε} (c1 : cvo e1 o1 false r1 l1) (c3 : l1 = true → l3 = true) (c4 : ∀ u, o1 = some u → r1 = e1 u → l1 = false → cvo e3 (F u) l1 r3 l3) : cvo e3 (o1.bind F) false r3 l3 := by
  cases o1 with
  | none => exact c3 c1
  | some u =>
    have h1 : l1 = false ∧ r1 = e1 u := c1
    have := c4 u rfl h1.2 h1.1
    rw [h1.1] at this
    exact this
theorem cvo_m {F : α → ε} (c1 : cvo e1 o1 false r1 l1) (hr : ∀ u, o1 = some u → r1 = e1 u → r3 = e3 (F u)) : cvo e3 (o1.map F) false r3 l1 := by
  cases o1 with
  | none => exact c1
  | some u =>
    have h1 : l1 = false ∧ r1 = e1 u := c1
    exact ⟨h1.1, hr u rfl h1.2⟩
theorem cvo_t {o : Option ε} (h : cvo e3 o l2 r3 l3) : l2 = true → l3 = true := fun e => by
  subst e
  exact h
end
section
variable {x y : Int64}
theorem lg_e : lg_cmp x y = 0 ↔ x = y := ⟨lg_eq0, fun e => by rw [e]; exact lg_eq y⟩
theorem mv_in_i : mv_in x ↔ ((-4611686018427387904 : Int64) ≤ x ∧ x ≤ 4611686018427387904) := by
  unfold mv_in
  rw [Int64.le_iff_toInt_le, Int64.le_iff_toInt_le]
  rfl
theorem bm64 {v : Int} (h1 : -9223372036854775808 ≤ v) (h2 : v < 9223372036854775808) : v.bmod (2 ^ 64) = v := by
  exact Int.bmod_eq_of_le (by omega) (by omega)
theorem mv_neg (h : mv_in x) : (-x).toInt = -x.toInt := by
  rw [Int64.toInt_neg]
  have := h.1
  have := h.2
  exact bm64 (by omega) (by omega)
theorem mv_neg_in (h : mv_in x) : mv_in (-x) := by
  unfold mv_in
  rw [mv_neg h]
  have := h.1
  have := h.2
  omega
theorem mv_fit_in {v : Int64} (h : mv_fit x = some v) : mv_in v := by
  unfold mv_fit at h
  split at h
  · cases h
    assumption
  · cases h
theorem mv_mul_in {v : Int64} (h : mv_mul x y = some v) : mv_in v := by
  unfold mv_mul at h
  split at h
  · rename_i hh
    cases h
    unfold mv_in
    rw [Int64.toInt_mul, bm64 (by omega) (by omega)]
    exact hh
  · cases h
theorem mv_div_in (h : mv_in x) : mv_in (x / y) := by
  unfold mv_in
  have h1 := h.1
  have h2 := h.2
  rw [Int64.toInt_div_of_ne_left _ _ (fun e => by rw [e] at h1; exact absurd h1 (by decide))]
  have h3 : (x.toInt.tdiv y.toInt).natAbs ≤ x.toInt.natAbs := by
    rw [Int.natAbs_tdiv]
    exact Nat.div_le_self _ _
  omega
theorem mv_two_in {op : Nat} {v : Int64} (hx : mv_in x) (h : mv_two op x y = some v) : mv_in v := by
  unfold mv_two at h
  split at h
  · exact mv_fit_in h
  · split at h
    · exact mv_fit_in h
    · split at h
      · exact mv_mul_in h
      · cases h
        split
        · exact ⟨by decide, by decide⟩
        · exact mv_div_in hx
end
/-- a state's amounts, and the nodes' numbers, are in bounds -/
def mv_ok (S : mv_S) : Prop := (∀ j, 0 ≤ (S.ac j).toInt ∧ (S.ac j).toInt ≤ 4611686018427387904) ∧ (∀ j v, S.ch j = some v → mv_in v) ∧ (∀ j v, S.us j = some v → mv_in v)
def mv_tok (tb : Nat → ms_N) : Prop := ∀ m, mv_in (tb m).2.2.2.2.1
theorem mv_gd {o : Option Int64} (h : ∀ v, o = some v → mv_in v) : mv_in (o.getD 0) := by
  cases o with
  | none => exact ⟨by decide, by decide⟩
  | some v => exact h v rfl
theorem mv_v_in {S : mv_S} {lo hi : Int64} {r : mv_R} {c : ms_N} {v : Int64} (hS : mv_ok S) (hr : ∀ m w, r.1 m = some w → mv_in w) (hv : mv_in c.2.2.2.2.1) (h : mv_v S lo hi r c = some v) : mv_in v := by
  obtain ⟨op, a, b, d, v', x, y, z, q⟩ := c
  unfold mv_v at h
  dsimp only at h hv
  split at h
  · cases h
    exact hv
  split at h
  · cases h
    have := hS.1 (a * 4 + d)
    exact ⟨by omega, this.2⟩
  split at h
  · cases hx : r.1 x with
    | none =>
      rw [hx] at h
      cases h
    | some w =>
      rw [hx] at h
      cases h
      exact mv_neg_in (hr x w hx)
  split at h
  · cases h
    exact mv_gd (hS.2.1 a)
  split at h
  · cases h
    exact mv_gd (hS.2.2 a)
  split at h
  · exact mv_fit_in h
  split at h
  · exact mv_fit_in h
  split at h
  · cases hx : r.2 x with
    | none =>
      rw [hx] at h
      cases h
    | some w =>
      rw [hx] at h
      exact hr _ _ h
  · cases hx : r.1 x with
    | none =>
      rw [hx] at h
      cases h
    | some u =>
      rw [hx] at h
      cases hy : r.1 y with
      | none =>
        rw [hy] at h
        cases h
      | some w =>
        rw [hy] at h
        exact mv_two_in (hr x u hx) h
theorem mv_E_in {tb : Nat → ms_N} {S : mv_S} {lo hi : Int64} (hS : mv_ok S) (ht : mv_tok tb) : ∀ (k m : Nat) (v : Int64), (mv_E tb S lo hi k).1 m = some v → mv_in v := by
  intro k
  induction k with
  | zero =>
    intro m v h
    cases h
  | succ k ih =>
    intro m v h
    exact mv_v_in hS (fun m w h => ih m w h) (ht m) h
