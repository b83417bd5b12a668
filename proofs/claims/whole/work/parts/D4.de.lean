/-! a transaction: a function of the nodes and of what it works on -/
/-- a state, warnings, payments, what is left of the wallets -/
abbrev mv_Z : Type := mv_S × (Nat × (Nat → Nat × Nat)) × (Nat × (Nat → Nat × Nat × Nat × Int64)) × (Nat → Int64)
def mv_Z.S (Z : mv_Z) : mv_S := Z.1
def mv_Z.ws (Z : mv_Z) : Nat × (Nat → Nat × Nat) := Z.2.1
def mv_Z.ps (Z : mv_Z) : Nat × (Nat → Nat × Nat × Nat × Int64) := Z.2.2.1
def mv_Z.lf (Z : mv_Z) : Nat → Int64 := Z.2.2.2
def mv_Z.go (Z : mv_Z) (i : Nat) : mv_Z := ((i, Z.1.2), Z.2)
def mv_Z.ti (Z : mv_Z) (t : Int64) : mv_Z := ((Z.1.1, t, Z.1.2.2), Z.2)
def mv_Z.ac (Z : mv_Z) (j : Nat) (v : Int64) : mv_Z := ((Z.1.1, Z.1.2.1, va_up Z.1.2.2.1 j v, Z.1.2.2.2), Z.2)
def mv_Z.ch (Z : mv_Z) (j : Nat) (v : Int64) : mv_Z := ((Z.1.1, Z.1.2.1, Z.1.2.2.1, va_up Z.1.2.2.2.1 j (some v), Z.1.2.2.2.2), Z.2)
def mv_Z.us (Z : mv_Z) (j : Nat) (v : Int64) : mv_Z := ((Z.1.1, Z.1.2.1, Z.1.2.2.1, Z.1.2.2.2.1, va_up Z.1.2.2.2.2 j (some v)), Z.2)
def mv_Z.tk (Z : mv_Z) (j : Nat) (v : Int64) : mv_Z := (Z.1, Z.2.1, Z.2.2.1, va_up Z.2.2.2 j v)
def mv_Z.wn (Z : mv_Z) (w m : Nat) : mv_Z := if Z.ws.1 < 148 then (Z.1, (Z.ws.1 + 1, va_up Z.ws.2 Z.ws.1 (w, m)), Z.2.2) else Z
def mv_Z.py (Z : mv_Z) (f t k : Nat) (v : Int64) : mv_Z := if Z.ps.1 < 148 then (Z.1, Z.2.1, (Z.ps.1 + 1, va_up Z.ps.2 Z.ps.1 (f, t, k, v)), Z.2.2.2) else Z
def mv_ff (f : Nat → Int64) : Nat → Nat → Nat
  | 0, k => k
  | t + 1, k => if f k = 0 then mv_ff f t (k + 1) else k
def mv_min (x y : Int64) : Int64 := if x ≤ y then x else y
def mv_lm (v : Int64) : Bool := decide (0 ≤ v ∧ v ≤ 4611686018427387904)
/-- pay: behind what is due -/
def mv_p1 (A D y m : Nat) (Z : mv_Z) (v : Int64) : mv_Z := (fun x : Int64 => (fun Z1 : mv_Z => if x < v then Z1.wn 3 m else Z1) ((Z.go y).ac (A * 4 + D) (Z.S.ac (A * 4 + D) + -x))) (mv_min v (Z.S.ac (A * 4 + D)))
def mv_p2 (op A B D : Nat) (x : Int64) (Z : mv_Z) : mv_Z × Bool := if op = 1 then (if x = 0 then Z else Z.py A B D x, true) else (Z.ac (B * 4 + D) (Z.S.ac (B * 4 + D) + x), mv_lm (Z.S.ac (B * 4 + D) + x))
def mv_pay (op A B D y m : Nat) (Z : mv_Z) (v : Int64) : mv_Z × Bool := if v ≤ 0 then ((Z.go y).wn 2 m, true) else mv_p2 op A B D (mv_min v (Z.S.ac (A * 4 + D))) (mv_p1 A D y m Z v)
def mv_let (A y m : Nat) (Z : mv_Z) (v : Int64) : mv_Z := (fun Z1 : mv_Z => (Z1.us A v).go y) (if (Z.S.us A).isSome = true then Z.wn 4 m else Z)
def mv_ass (y m : Nat) (Z : mv_Z) (b : Bool) : mv_Z := (if b = true then Z else Z.wn 5 m).go y
def mv_cl (Z : mv_Z) (k : Nat) : mv_Z := (Z.py (k / 4) (k / 4) (k % 4) (Z.S.ac k)).ac k 0
/-- one reduction: an error, nothing to be done, or what comes of it -/
def mv_s1 (r : mv_R) (lo hi : Int64) (Z : mv_Z) : ms_N → Except Nat (Option mv_Z)
  | (op, A, B, D, v, x, y, z, _) =>
    if op = 0 then (if mv_ff Z.S.ac 32 0 = 32 then .ok none else .ok (some (mv_cl Z (mv_ff Z.S.ac 32 0))))
    else if op = 1 ∨ op = 2 then (match r.1 x with
      | none => .error 6
      | some w => if (mv_pay op A B D y Z.S.at Z w).2 = true then .ok (some (mv_pay op A B D y Z.S.at Z w).1) else .error 6)
    else if op = 3 then (match r.2 x with
      | none => .error 6
      | some b => .ok (some (Z.go (if b = true then y else z))))
    else if op = 4 then (if hi < v then .ok none else if lo < v then .error 3 else .ok (some (Z.go y)))
    else if op = 5 then (match r.1 x with
      | none => .error 6
      | some w => .ok (some (mv_let A y Z.S.at Z w)))
    else (match r.2 x with
      | none => .error 6
      | some b => .ok (some (mv_ass y Z.S.at Z b)))
def mv_step (tb : Nat → ms_N) (lo hi : Int64) (Z : mv_Z) : Except Nat (Option mv_Z) := mv_s1 (mv_E tb Z.S lo hi 100) lo hi Z (tb Z.S.at)
def mv_red (tb : Nat → ms_N) (lo hi : Int64) : Nat → Bool → mv_Z → Except Nat (Bool × mv_Z)
  | 0, b, Z => .ok (b, Z)
  | t + 1, b, Z => match mv_step tb lo hi Z with
    | .error e => .error e
    | .ok none => .ok (b, Z)
    | .ok (some Z') => mv_red tb lo hi t true Z'
/-- an input: its kind, what it names, its amount -/
abbrev mv_I : Type := Nat × Nat × Nat × Nat × Int64
def mv_wi (bd : Nat → Int64 × Int64) (v : Int64) : Nat → Nat → Bool
  | 0, _ => false
  | t + 1, j => if (bd j).1 ≤ v ∧ v ≤ (bd j).2 then true else mv_wi bd v t (j + 1)
def mv_fits (bd : Nat → Int64 × Int64) (r : mv_R) (i : mv_I) : ms_N → Option Bool
  | (op, A, B, D, _, x, _, _, many, from1) =>
    if ¬ op = i.1 then some false
    else if op = 9 then r.2 x
    else if ¬ A = i.2.1 then some false
    else if op = 8 then some (mv_wi bd i.2.2.2.2 many from1)
    else if ¬ (B = i.2.2.1 ∧ D = i.2.2.2.1) then some false
    else (r.1 x).map (fun w => decide (w = i.2.2.2.2))
def mv_acc (wal : Bool) (m : Nat) (v : Int64) (Z : mv_Z) : ms_N → Except Nat mv_Z
  | (op, A, B, D, _, _, y, _) =>
    if op = 8 then .ok ((Z.ch A v).go y)
    else if op = 9 then .ok (Z.go y)
    else if v ≤ 0 then .ok ((Z.wn 1 m).go y)
    else if wal = true ∧ Z.lf (B * 4 + D) < v then .error 7
    else if mv_lm (Z.S.ac (A * 4 + D) + v) = true then .ok (((if wal = true then Z.tk (B * 4 + D) (Z.lf (B * 4 + D) - v) else Z).ac (A * 4 + D) (Z.S.ac (A * 4 + D) + v)).go y) else .error 6
def mv_tks (tb : Nat → ms_N) (bd : Nat → Int64 × Int64) (wal : Bool) (r : mv_R) (i : mv_I) (Z : mv_Z) : Nat → Nat → Except Nat mv_Z
  | 0, _ => .error 4
  | t + 1, m => if m = 0 then .error 4 else match mv_fits bd r i (tb m) with
    | none => .error 6
    | some true => mv_acc wal m i.2.2.2.2 Z (tb m)
    | some false => mv_tks tb bd wal r i Z t (tb m).2.2.2.2.2.2.2.1
def mv_take (tb : Nat → ms_N) (bd : Nat → Int64 × Int64) (wal : Bool) (lo hi : Int64) (i : mv_I) (Z : mv_Z) : Except Nat mv_Z := if (tb Z.S.at).1 = 4 then mv_tks tb bd wal (mv_E tb Z.S lo hi 100) i Z 8 (tb Z.S.at).2.2.2.2.2.1 else .error 4
def mv_ins (tb : Nat → ms_N) (bd : Nat → Int64 × Int64) (wal : Bool) (lo hi : Int64) (ins : Nat → mv_I) : Nat → Nat → mv_Z → Except Nat mv_Z
  | 0, _, Z => .ok Z
  | t + 1, k, Z => match mv_take tb bd wal lo hi (ins k) Z with
    | .error e => .error e
    | .ok Z1 => match mv_red tb lo hi 148 false Z1 with
      | .error e => .error e
      | .ok (_, Z2) => mv_ins tb bd wal lo hi ins t (k + 1) Z2
def mv_lo (from1 t : Int64) : Int64 := if from1 < t then t else from1
def mv_run (tb : Nat → ms_N) (bd : Nat → Int64 × Int64) (wal : Bool) (many : Nat) (ins : Nat → mv_I) (from1 to1 : Int64) (Z : mv_Z) : Except Nat mv_Z :=
  if to1 < from1 then .error 1
  else if to1 < Z.S.tm then .error 2
  else match mv_red tb (mv_lo from1 Z.S.tm) to1 148 false (Z.ti (mv_lo from1 Z.S.tm)) with
    | .error e => .error e
    | .ok (b, Z1) => if many = 0 ∧ b = false then .error 5 else mv_ins tb bd wal (mv_lo from1 Z.S.tm) to1 ins many 0 Z1
/-- the wallets behind it -/
def mv_set (ps : Nat → Nat × Nat × Nat × Int64) : Nat → Nat → (Nat → Int64) → Option (Nat → Int64)
  | 0, _, w => some w
  | t + 1, k, w => if 4611686018427387904 - (ps k).2.2.2 < w ((ps k).2.1 * 4 + (ps k).2.2.1) then none else mv_set ps t (k + 1) (va_up w ((ps k).2.1 * 4 + (ps k).2.2.1) (w ((ps k).2.1 * 4 + (ps k).2.2.1) + (ps k).2.2.2))
