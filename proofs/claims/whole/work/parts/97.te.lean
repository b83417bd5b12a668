/-! what the reading asks for: the text -/
/-- a node: op, a, b, d, v, x, y, z, how many bounds and from where -/
abbrev ms_N : Type := Nat × Nat × Nat × Nat × Int64 × Nat × Nat × Nat × Nat × Nat
abbrev ms_S : Type := ms_T × Nat × Nat × (Nat × (Nat → Nat × Nat)) × (Nat × (Nat → Nat × Nat)) × (Nat × (Nat → Nat × Nat)) × (Nat × (Nat → Nat × Nat × Nat)) × (Nat → ms_N) × (Nat → Int64 × Int64)
def ms_S.t (σ : ms_S) : ms_T := σ.1
def ms_S.n (σ : ms_S) : Nat := σ.2.1
def ms_S.q (σ : ms_S) : Nat := σ.2.2.1
def ms_S.P (σ : ms_S) : Nat × (Nat → Nat × Nat) := σ.2.2.2.1
def ms_S.T (σ : ms_S) : Nat × (Nat → Nat × Nat) := σ.2.2.2.2.1
def ms_S.N (σ : ms_S) : Nat × (Nat → Nat × Nat) := σ.2.2.2.2.2.1
def ms_S.H (σ : ms_S) : Nat × (Nat → Nat × Nat × Nat) := σ.2.2.2.2.2.2.1
def ms_S.tb (σ : ms_S) : Nat → ms_N := σ.2.2.2.2.2.2.2.1
def ms_S.bd (σ : ms_S) : Nat → Int64 × Int64 := σ.2.2.2.2.2.2.2.2
abbrev ms_R (α : Type) : Type := Except Nat (α × ms_S)
def ms_eb {α β : Type} (r : ms_R α) (h : α → ms_S → ms_R β) : ms_R β := match r with
  | .error w => .error w
  | .ok (x, σ) => h x σ
theorem ms_eb_ok {α β : Type} {x : α} {σ : ms_S} {h : α → ms_S → ms_R β} : ms_eb (.ok (x, σ)) h = h x σ := rfl
theorem ms_eb_er {α β : Type} {w : Nat} {h : α → ms_S → ms_R β} : ms_eb (.error w) h = .error w := rfl
/-- the reading fails at w: at once, or at the next token, which no text may have -/
def ms_bad {α : Type} (r : ms_R α) (w : Nat) : Prop := match r with
  | .error e => e = w
  | .ok (_, σ) => σ.t.k = 40 ∧ σ.t.a = w
theorem ms_bad.bind {α β : Type} {r : ms_R α} {w : Nat} {h : α → ms_S → ms_R β} (hr : ms_bad r w) (ho : ∀ x σ, σ.t.k = 40 → ms_bad (h x σ) σ.t.a) : ms_bad (ms_eb r h) w := by
  match r, hr with
  | .error e, hr => exact hr
  | .ok (x, σ), hr =>
    have := ho x σ hr.1
    rw [hr.2] at this
    exact this
def ms_S.nx (g : Nat → Int32) (L : Nat) (σ : ms_S) : ms_S := (ms_nx g L σ.t.b, σ.2)
def ms_S.add (σ : ms_S) : ms_S := (σ.t, σ.n + 1, σ.2.2)
def ms_S.bnd (σ : ms_S) (v w : Int64) : ms_S := (σ.t, σ.n, σ.q + 1, σ.P, σ.T, σ.N, σ.H, σ.tb, va_up σ.bd σ.q (v, w))
def ms_S.set (σ : ms_S) (m : Nat) (c : ms_N) : ms_S := (σ.t, σ.n, σ.q, σ.P, σ.T, σ.N, σ.H, va_up σ.tb m c, σ.bd)
def ms_S.sP (σ : ms_S) (p : Nat × (Nat → Nat × Nat)) : ms_S := (σ.t, σ.n, σ.q, p, σ.T, σ.N, σ.H, σ.tb, σ.bd)
def ms_S.sT (σ : ms_S) (p : Nat × (Nat → Nat × Nat)) : ms_S := (σ.t, σ.n, σ.q, σ.P, p, σ.N, σ.H, σ.tb, σ.bd)
def ms_S.sN (σ : ms_S) (p : Nat × (Nat → Nat × Nat)) : ms_S := (σ.t, σ.n, σ.q, σ.P, σ.T, p, σ.H, σ.tb, σ.bd)
def ms_S.sH (σ : ms_S) (p : Nat × (Nat → Nat × Nat × Nat)) : ms_S := (σ.t, σ.n, σ.q, σ.P, σ.T, σ.N, p, σ.tb, σ.bd)
def ms_need (g : Nat → Int32) (L k : Nat) (σ : ms_S) : ms_R Unit := if σ.t.k = k then .ok ((), σ.nx g L) else .error σ.t.a
def ms_fd (g : Nat → Int32) (a b : Nat) (tb : Nat → Nat × Nat) : Nat → Nat → Nat
  | 0, i => i
  | t + 1, i => if (tb i).2 = b - a ∧ mr_sm g (tb i).1 a (tb i).2 then i else ms_fd g a b tb t (i + 1)
/-- a name's place in its table, and the table with it -/
def ms_ni (g : Nat → Int32) (σ : ms_S) (p : Nat × (Nat → Nat × Nat)) : Nat := ms_fd g σ.t.a σ.t.b p.2 p.1 0
def ms_nn (g : Nat → Int32) (σ : ms_S) (p : Nat × (Nat → Nat × Nat)) : Nat × (Nat → Nat × Nat) := if ms_ni g σ p = p.1 then (p.1 + 1, va_up p.2 p.1 (σ.t.a, σ.t.b - σ.t.a)) else p
def ms_pa (g : Nat → Int32) (L : Nat) (σ : ms_S) : ms_R Nat := if σ.t.k = 38 then (if ms_ni g σ σ.P = 8 then .error σ.t.a else .ok (ms_ni g σ σ.P, (σ.sP (ms_nn g σ σ.P)).nx g L)) else .error σ.t.a
def ms_to (g : Nat → Int32) (L : Nat) (σ : ms_S) : ms_R Nat := if σ.t.k = 38 then (if ms_ni g σ σ.T = 4 then .error σ.t.a else .ok (ms_ni g σ σ.T, (σ.sT (ms_nn g σ σ.T)).nx g L)) else .error σ.t.a
def ms_va (g : Nat → Int32) (L : Nat) (σ : ms_S) : ms_R Nat := if σ.t.k = 38 then (if ms_ni g σ σ.N = 8 then .error σ.t.a else .ok (ms_ni g σ σ.N, (σ.sN (ms_nn g σ σ.N)).nx g L)) else .error σ.t.a
def ms_fh (g : Nat → Int32) (a m p : Nat) (tb : Nat → Nat × Nat × Nat) : Nat → Nat → Nat
  | 0, i => i
  | t + 1, i => if (tb i).2.2 = p ∧ (tb i).2.1 = m ∧ mr_sm g (tb i).1 a (tb i).2.1 then i else ms_fh g a m p tb t (i + 1)
def ms_hp (g : Nat → Int32) (L : Nat) (σ : ms_S) : Nat := ms_ni g (σ.nx g L) σ.P
def ms_hi (g : Nat → Int32) (L : Nat) (σ : ms_S) : Nat := ms_fh g σ.t.a (σ.t.b - σ.t.a) (ms_hp g L σ) σ.H.2 σ.H.1 0
def ms_hh (g : Nat → Int32) (L : Nat) (σ : ms_S) : Nat × (Nat → Nat × Nat × Nat) := if ms_hi g L σ = σ.H.1 then (σ.H.1 + 1, va_up σ.H.2 σ.H.1 (σ.t.a, σ.t.b - σ.t.a, ms_hp g L σ)) else σ.H
def ms_hc (g : Nat → Int32) (L : Nat) (σ : ms_S) : ms_R Nat := if σ.t.k = 38 then (if (σ.nx g L).t.k = 38 then (if ms_hi g L σ = 8 then .error σ.t.a else ms_eb (ms_pa g L (σ.nx g L)) (fun _ σ2 => .ok (ms_hi g L σ, σ2.sH (ms_hh g L σ)))) else .error (σ.nx g L).t.a) else .error σ.t.a
def ms_op (s : Bool) (k : Nat) : Option Nat := match s with
  | false => if k = 37 then some 10 else if k = ms_kc 27 then some 11 else if k = ms_kc 28 then some 12 else if k = ms_kc 42 then some 13 else if k = ms_kc 43 then some 14 else if k = ms_kc 44 then some 15 else if k = ms_kc 45 then some 16 else if k = ms_kc 29 then some 17 else if k = ms_kc 30 then some 18 else if k = ms_kc 31 then some 19 else if k = ms_kc 32 then some 20 else if k = ms_kc 33 then some 21 else none
  | true => if k = ms_kc 34 then some 22 else if k = ms_kc 35 then some 23 else if k = ms_kc 36 then some 24 else if k = ms_kc 37 then some 25 else if k = ms_kc 38 then some 26 else if k = ms_kc 39 then some 27 else if k = ms_kc 46 then some 28 else if k = ms_kc 47 then some 29 else if k = ms_kc 48 then some 30 else if k = ms_kc 49 then some 31 else if k = ms_kc 50 then some 32 else none
/-- what stands behind the first token of a value or a truth: how many and which -/
def ms_sh (op : Nat) : Nat := ([0, 0, 0, 0, 0, 0, 0, 0, 0, 0, 0, 1, 2, 3, 3, 3, 3, 4, 5, 0, 0, 6, 0, 0, 7, 7, 8, 4, 3, 3, 3, 3, 3] : List Nat).getD op 0
def ms_bd (g : Nat → Int32) (L : Nat) (E : Bool → ms_S → ms_R Unit) (op m : Nat) (v : Int64) (σ : ms_S) : ms_R Unit := match ms_sh op with
  | 1 => ms_eb (ms_pa g L σ) (fun p σ => ms_eb (ms_to g L σ) (fun t σ => .ok ((), σ.set m (op, p, 0, t, 0, 0, 0, 0, 0, 0))))
  | 2 => ms_eb (E false σ) (fun _ σ1 => .ok ((), σ1.set m (op, 0, 0, 0, 0, σ.n, 0, 0, 0, 0)))
  | 3 => ms_eb (E false σ) (fun _ σ1 => ms_eb (E false σ1) (fun _ σ2 => .ok ((), σ2.set m (op, 0, 0, 0, 0, σ.n, σ1.n, 0, 0, 0))))
  | 4 => ms_eb (ms_hc g L σ) (fun h σ => .ok ((), σ.set m (op, h, 0, 0, 0, 0, 0, 0, 0, 0)))
  | 5 => ms_eb (ms_va g L σ) (fun h σ => .ok ((), σ.set m (op, h, 0, 0, 0, 0, 0, 0, 0, 0)))
  | 6 => ms_eb (E true σ) (fun _ σ1 => ms_eb (E false σ1) (fun _ σ2 => ms_eb (E false σ2) (fun _ σ3 => .ok ((), σ3.set m (op, 0, 0, 0, 0, σ.n, σ1.n, σ2.n, 0, 0)))))
  | 7 => ms_eb (E true σ) (fun _ σ1 => ms_eb (E true σ1) (fun _ σ2 => .ok ((), σ2.set m (op, 0, 0, 0, 0, σ.n, σ1.n, 0, 0, 0))))
  | 8 => ms_eb (E true σ) (fun _ σ1 => .ok ((), σ1.set m (op, 0, 0, 0, 0, σ.n, 0, 0, 0, 0)))
  | _ => .ok ((), σ.set m (op, 0, 0, 0, if op = 10 then v else 0, 0, 0, 0, 0, 0))
def ms_E (g : Nat → Int32) (L : Nat) : Nat → Bool → ms_S → ms_R Unit
  | 0, _, σ => .error σ.t.a
  | k + 1, s, σ => if σ.t.k = ms_kc 40 then ms_eb (ms_E g L k s (σ.nx g L)) (fun _ σ => ms_need g L (ms_kc 41) σ) else match ms_op s σ.t.k with
    | none => .error σ.t.a
    | some op => if σ.n = 800 then .error σ.t.a else ms_bd g L (ms_E g L k) op σ.n σ.t.v (σ.add.nx g L)
def ms_oc (k : Nat) : Option Nat := if k = ms_kc 16 then some 0 else if k = ms_kc 17 then some 1 else if k = ms_kc 20 then some 3 else if k = ms_kc 21 then some 4 else if k = ms_kc 22 then some 5 else if k = ms_kc 23 then some 6 else none
def ms_oa (k : Nat) : Option Nat := if k = ms_kc 24 then some 7 else if k = ms_kc 25 then some 8 else if k = ms_kc 26 then some 9 else none
def ms_bs (g : Nat → Int32) (L : Nat) : Nat → ms_S → ms_R Unit
  | 0, σ => .error σ.t.a
  | f + 1, σ => if σ.t.k = 37 then (if (σ.nx g L).t.k = 37 ∧ ¬ (σ.nx g L).t.v < σ.t.v then (if (((σ.nx g L).bnd σ.t.v (σ.nx g L).t.v).nx g L).t.k = ms_kc 52 then .ok ((), (((σ.nx g L).bnd σ.t.v (σ.nx g L).t.v).nx g L).nx g L) else ms_bs g L f (((σ.nx g L).bnd σ.t.v (σ.nx g L).t.v).nx g L)) else .error (σ.nx g L).t.a) else .error σ.t.a
/-- an action but for its contract and the next action -/
def ms_ac (g : Nat → Int32) (L : Nat) (E : Bool → ms_S → ms_R Unit) (op : Nat) (σ : ms_S) : ms_R ms_N := match op with
  | 7 => ms_eb (ms_pa g L σ) (fun a σ => ms_eb (ms_pa g L σ) (fun b σ => ms_eb (ms_to g L σ) (fun t σ => ms_eb (E false σ) (fun _ σ1 => .ok ((7, a, b, t, 0, σ.n, 0, 0, 0, 0), σ1)))))
  | 9 => ms_eb (E true σ) (fun _ σ1 => .ok ((9, 0, 0, 0, 0, σ.n, 0, 0, 0, 0), σ1))
  | _ => ms_eb (ms_hc g L σ) (fun h σ => ms_eb (ms_need g L (ms_kc 51) σ) (fun _ σ => ms_eb (ms_bs g L L σ) (fun _ σ1 => .ok ((8, h, 0, 0, 0, 0, 0, 0, σ1.q - σ.q, σ.q), σ1))))
def ms_N.yz (c : ms_N) (y z : Nat) : ms_N := (c.1, c.2.1, c.2.2.1, c.2.2.2.1, c.2.2.2.2.1, c.2.2.2.2.2.1, y, z, c.2.2.2.2.2.2.2.2)
/-- the actions of a when: the first one's number, or 0 -/
def ms_as (g : Nat → Int32) (L : Nat) (E : Bool → ms_S → ms_R Unit) (C : ms_S → ms_R Unit) : Nat → ms_S → ms_R Nat
  | 0, σ => if σ.t.k = ms_kc 52 then .ok (0, σ) else .error σ.t.a
  | c + 1, σ => if σ.t.k = ms_kc 52 then .ok (0, σ) else match ms_oa σ.t.k with
    | none => .error σ.t.a
    | some op => if σ.n = 800 then .error σ.t.a else ms_eb (ms_ac g L E op (σ.add.nx g L)) (fun x σ1 => ms_eb (C σ1) (fun _ σ2 => ms_eb (ms_as g L E C c σ2) (fun z σ3 => .ok (σ.n, σ3.set σ.n (x.yz σ1.n z)))))
def ms_num (g : Nat → Int32) (L : Nat) (σ : ms_S) : ms_R Int64 := if σ.t.k = 37 then .ok (σ.t.v, σ.nx g L) else .error σ.t.a
def ms_ti (g : Nat → Int32) (L : Nat) (σ : ms_S) : ms_R Nat := if σ.t.k = ms_kc 18 then .ok (1, σ.nx g L) else if σ.t.k = ms_kc 19 then .ok (2, σ.nx g L) else .error σ.t.a
def ms_pt (g : Nat → Int32) (L : Nat) (E : Bool → ms_S → ms_R Unit) (C : ms_S → ms_R Unit) (op m : Nat) (σ : ms_S) : ms_R Unit := match op with
  | 0 => .ok ((), σ.set m (0, 0, 0, 0, 0, 0, 0, 0, 0, 0))
  | 1 => ms_eb (ms_pa g L σ) (fun a σ => ms_eb (ms_ti g L σ) (fun o σ => ms_eb (ms_pa g L σ) (fun b σ => ms_eb (ms_to g L σ) (fun t σ => ms_eb (E false σ) (fun _ σ1 => ms_eb (C σ1) (fun _ σ2 => .ok ((), σ2.set m (o, a, b, t, 0, σ.n, σ1.n, 0, 0, 0))))))))
  | 3 => ms_eb (E true σ) (fun _ σ1 => ms_eb (C σ1) (fun _ σ2 => ms_eb (C σ2) (fun _ σ3 => .ok ((), σ3.set m (3, 0, 0, 0, 0, σ.n, σ1.n, σ2.n, 0, 0)))))
  | 4 => ms_eb (ms_need g L (ms_kc 51) σ) (fun _ σ => ms_eb (ms_as g L E C 8 σ) (fun x σ => ms_eb (ms_num g L (σ.nx g L)) (fun v σ => ms_eb (C σ) (fun _ σ1 => .ok ((), σ1.set m (4, 0, 0, 0, v, x, σ.n, 0, 0, 0))))))
  | 5 => ms_eb (ms_va g L σ) (fun a σ => ms_eb (E false σ) (fun _ σ1 => ms_eb (C σ1) (fun _ σ2 => .ok ((), σ2.set m (5, a, 0, 0, 0, σ.n, σ1.n, 0, 0, 0)))))
  | _ => ms_eb (E true σ) (fun _ σ1 => ms_eb (C σ1) (fun _ σ2 => .ok ((), σ2.set m (6, 0, 0, 0, 0, σ.n, σ1.n, 0, 0, 0))))
def ms_C (g : Nat → Int32) (L : Nat) : Nat → ms_S → ms_R Unit
  | 0, σ => .error σ.t.a
  | k + 1, σ => if σ.t.k = ms_kc 40 then ms_eb (ms_C g L k (σ.nx g L)) (fun _ σ => ms_need g L (ms_kc 41) σ) else match ms_oc σ.t.k with
    | none => .error σ.t.a
    | some op => if σ.n = 800 then .error σ.t.a else ms_pt g L (ms_E g L k) (ms_C g L k) op σ.n (σ.add.nx g L)
def ms_s0 (g : Nat → Int32) (L : Nat) : ms_S := (ms_nx g L 0, 0, 0, (0, fun _ => (0, 0)), (0, fun _ => (0, 0)), (0, fun _ => (0, 0)), (0, fun _ => (0, 0, 0)), fun _ => (0, 0, 0, 0, 0, 0, 0, 0, 0, 0), fun _ => (0, 0))
def ms_read (g : Nat → Int32) (L : Nat) : ms_R Unit := ms_eb (ms_C g L 100 (ms_s0 g L)) (fun _ σ => if σ.t.k = 39 then .ok ((), σ) else .error σ.t.a)
/-! a token that no text may have fails everywhere -/
section
variable {g : Nat → Int32} {L : Nat} {σ : ms_S}
theorem ms_op40 : ms_op false 40 = none ∧ ms_op true 40 = none ∧ ms_oc 40 = none ∧ ms_oa 40 = none := by decide +kernel
theorem ms_E_odd (h : σ.t.k = 40) : ∀ (k : Nat) (s : Bool), ms_E g L k s σ = .error σ.t.a := by
  intro k s
  cases k with
  | zero => rfl
  | succ k =>
    unfold ms_E
    rw [h, if_neg (by decide)]
    cases s
    · rw [ms_op40.1]
    · rw [ms_op40.2.1]
theorem ms_C_odd (h : σ.t.k = 40) : ∀ (k : Nat), ms_C g L k σ = .error σ.t.a := by
  intro k
  cases k with
  | zero => rfl
  | succ k =>
    unfold ms_C
    rw [h, if_neg (by decide), ms_op40.2.2.1]
theorem ms_need_odd (h : σ.t.k = 40) {k : Nat} (hk : ¬ 40 = k) : ms_need g L k σ = .error σ.t.a := by
  unfold ms_need
  rw [h, if_neg hk]
theorem ms_pa_odd (h : σ.t.k = 40) : ms_pa g L σ = .error σ.t.a := by
  unfold ms_pa
  rw [h, if_neg (by decide)]
theorem ms_to_odd (h : σ.t.k = 40) : ms_to g L σ = .error σ.t.a := by
  unfold ms_to
  rw [h, if_neg (by decide)]
theorem ms_va_odd (h : σ.t.k = 40) : ms_va g L σ = .error σ.t.a := by
  unfold ms_va
  rw [h, if_neg (by decide)]
theorem ms_hc_odd (h : σ.t.k = 40) : ms_hc g L σ = .error σ.t.a := by
  unfold ms_hc
  rw [h, if_neg (by decide)]
theorem ms_as_odd (h : σ.t.k = 40) {E : Bool → ms_S → ms_R Unit} {C : ms_S → ms_R Unit} : ∀ c, ms_as g L E C c σ = .error σ.t.a := by
  intro c
  cases c with
  | zero =>
    unfold ms_as
    rw [h, if_neg (by decide)]
  | succ c =>
    unfold ms_as
    rw [h, if_neg (by decide), ms_op40.2.2.2]
theorem ms_bs_odd (h : σ.t.k = 40) : ∀ c, ms_bs g L c σ = .error σ.t.a := by
  intro c
  cases c with
  | zero => rfl
  | succ c =>
    unfold ms_bs
    rw [h, if_neg (by decide)]
theorem ms_num_odd (h : σ.t.k = 40) : ms_num g L σ = .error σ.t.a := by
  unfold ms_num
  rw [h, if_neg (by decide)]
theorem ms_ti_odd (h : σ.t.k = 40) : ms_ti g L σ = .error σ.t.a := by
  unfold ms_ti
  rw [h, if_neg (by decide), if_neg (by decide)]
theorem ms_ac_odd (h : σ.t.k = 40) {k : Nat} {op : Nat} : ms_ac g L (ms_E g L k) op σ = .error σ.t.a := by
  unfold ms_ac
  split
  · rw [ms_pa_odd h, ms_eb_er]
  · rw [ms_E_odd h, ms_eb_er]
  · rw [ms_hc_odd h, ms_eb_er]
theorem ms_bd_odd (h : σ.t.k = 40) {k : Nat} {op m : Nat} {v : Int64} : ms_bad (ms_bd g L (ms_E g L k) op m v σ) σ.t.a := by
  unfold ms_bd
  split
  · rw [ms_pa_odd h, ms_eb_er]
    exact rfl
  · rw [ms_E_odd h, ms_eb_er]
    exact rfl
  · rw [ms_E_odd h, ms_eb_er]
    exact rfl
  · rw [ms_hc_odd h, ms_eb_er]
    exact rfl
  · rw [ms_va_odd h, ms_eb_er]
    exact rfl
  · rw [ms_E_odd h, ms_eb_er]
    exact rfl
  · rw [ms_E_odd h, ms_eb_er]
    exact rfl
  · rw [ms_E_odd h, ms_eb_er]
    exact rfl
  · exact ⟨h, rfl⟩
end
