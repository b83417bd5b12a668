/-! the first object: what a transaction works on -/
def cEv (a : mh_A) (e : Nat) (Z : mv_Z) : Prop := (a.I 8 e 6 = Int32.ofNat Z.ws.1 ∧ Z.ws.1 ≤ 148 ∧ ∀ i, i < Z.ws.1 → a.AI 8 e 0 i = Int32.ofNat (Z.ws.2 i).1 ∧ a.AI 8 e 1 i = Int32.ofNat (Z.ws.2 i).2) ∧ (a.I 8 e 7 = Int32.ofNat Z.ps.1 ∧ Z.ps.1 ≤ 148 ∧ ∀ i, i < Z.ps.1 → a.AI 8 e 2 i = Int32.ofNat (Z.ps.2 i).1 ∧ a.AI 8 e 3 i = Int32.ofNat (Z.ps.2 i).2.1 ∧ a.AI 8 e 4 i = Int32.ofNat (Z.ps.2 i).2.2.1 ∧ a.AL 8 e 5 i = (Z.ps.2 i).2.2.2)
/-- a machine at work -/
def cM (a : mh_A) (p q N : Nat) (tb : Nat → ms_N) (lo hi : Int64) (Z : mv_Z) : Prop := (mh_o p 7 ∧ mh_o (p + 1) 8 ∧ mh_o (p + 12) 10 ∧ (p = 41 ∨ p = 67)) ∧ (a.R 7 p = q ∧ a.R 10 (p + 12) = q ∧ a.L 7 p 4 = lo ∧ a.L 7 p 5 = hi ∧ a.L 10 (p + 12) 2 = lo ∧ a.L 10 (p + 12) 3 = hi) ∧ ((a.I 2 3 11 = Int32.ofNat N ∧ N ≤ 800) ∧ crg 0 N a tb ∧ mv_tok tb) ∧ cSt a q Z.S ∧ cEv a (p + 1) Z ∧ (p = 41 → ∀ j, j < 32 → a.AL 5 32 1 j = Z.lf j)
/-- what a transaction leaves as it is -/
def cMf (p q : Nat) (a a' : mh_A) : Prop := a'.R = a.R ∧ ∀ c r k, ¬ (c = 9 ∧ r = q) → ¬ (c = 8 ∧ r = p + 1) → ¬ (c = 5 ∧ k = 1) → (¬ (c = 10 ∧ r = p + 12 ∧ k = 4) → ¬ (c = 7 ∧ r = p ∧ k = 6) → a'.I c r k = a.I c r k) ∧ a'.L c r k = a.L c r k ∧ a'.AI c r k = a.AI c r k ∧ a'.AL c r k = a.AL c r k
section
variable {d n sl N : Nat} {a a0 a1 a2 : mh_A} {f0 : Nat → mi_C} {Q : (Option Value ⊕ Nat) → mi_H → Prop} {p q i j c k r : Nat} {tb : Nat → ms_N} {lo hi v w : Int64} {Z : mv_Z}
theorem cMf.re : cMf p q a a := ⟨rfl, fun _ _ _ _ _ _ => ⟨fun _ _ => rfl, rfl, rfl, rfl⟩⟩
theorem cMf.trans (h : cMf p q a a1) (h' : cMf p q a1 a2) : cMf p q a a2 := ⟨h'.1.trans h.1, fun c r k h1 h2 h3 => ⟨fun h4 h5 => ((h'.2 c r k h1 h2 h3).1 h4 h5).trans ((h.2 c r k h1 h2 h3).1 h4 h5), (h'.2 c r k h1 h2 h3).2.1.trans (h.2 c r k h1 h2 h3).2.1, (h'.2 c r k h1 h2 h3).2.2.1.trans (h.2 c r k h1 h2 h3).2.2.1, (h'.2 c r k h1 h2 h3).2.2.2.trans (h.2 c r k h1 h2 h3).2.2.2⟩⟩
theorem mh_u_x {α : Type} {X : Nat → Nat → Nat → α} {v : α} {c' r' k' : Nat} (h : ¬ (c' = c ∧ r' = r ∧ k' = k)) : mh_u X c r k v c' r' k' = X c' r' k' := by
  unfold mh_u
  split
  · split
    · split
      · exact absurd ⟨by assumption, by assumption, by assumption⟩ h
      · rfl
    · rfl
  · rfl
theorem cMf.sI {v : Int32} (h : cMf p q a0 a) (hc : (c = 9 ∧ r = q) ∨ (c = 8 ∧ r = p + 1) ∨ (c = 10 ∧ r = p + 12 ∧ k = 4) ∨ (c = 7 ∧ r = p ∧ k = 6)) : cMf p q a0 (a.sI c r k v) := ⟨h.1, fun c' r' k' h1 h2 h3 => ⟨fun h4 h5 => (mh_u_x (fun e => by obtain ⟨rfl, rfl, rfl⟩ := e; omega)).trans ((h.2 c' r' k' h1 h2 h3).1 h4 h5), (h.2 c' r' k' h1 h2 h3).2⟩⟩
theorem cMf.sL {v : Int64} (h : cMf p q a0 a) (hc : (c = 9 ∧ r = q)) : cMf p q a0 (a.sL c r k v) := ⟨h.1, fun c' r' k' h1 h2 h3 => ⟨(h.2 c' r' k' h1 h2 h3).1, (mh_u_x (fun e => by obtain ⟨rfl, rfl, rfl⟩ := e; omega)).trans (h.2 c' r' k' h1 h2 h3).2.1, (h.2 c' r' k' h1 h2 h3).2.2⟩⟩
theorem cMf.sAI {g : Nat → Int32} (h : cMf p q a0 a) (hc : (c = 8 ∧ r = p + 1)) : cMf p q a0 (a.sAI c r k g) := ⟨h.1, fun c' r' k' h1 h2 h3 => ⟨(h.2 c' r' k' h1 h2 h3).1, (h.2 c' r' k' h1 h2 h3).2.1, (mh_u_x (fun e => by obtain ⟨rfl, rfl, rfl⟩ := e; omega)).trans (h.2 c' r' k' h1 h2 h3).2.2.1, (h.2 c' r' k' h1 h2 h3).2.2.2⟩⟩
theorem cMf.sAL {g : Nat → Int64} (h : cMf p q a0 a) (hc : (c = 9 ∧ r = q) ∨ (c = 8 ∧ r = p + 1) ∨ (c = 5 ∧ k = 1)) : cMf p q a0 (a.sAL c r k g) := ⟨h.1, fun c' r' k' h1 h2 h3 => ⟨(h.2 c' r' k' h1 h2 h3).1, (h.2 c' r' k' h1 h2 h3).2.1, (h.2 c' r' k' h1 h2 h3).2.2.1, (mh_u_x (fun e => by obtain ⟨rfl, rfl, rfl⟩ := e; omega)).trans (h.2 c' r' k' h1 h2 h3).2.2.2⟩⟩
theorem cbit_d (x y : Int32) : (x ||| y) &&& 1 = (x &&& 1) ||| (y &&& 1) := by
  apply Int32.toBitVec_inj.1
  rw [Int32.toBitVec_and, Int32.toBitVec_or, Int32.toBitVec_or, Int32.toBitVec_and, Int32.toBitVec_and]
  ext i hi
  simp only [BitVec.getElem_and, BitVec.getElem_or, Bool.and_or_distrib_right]
theorem cbit_1 : ∀ j c : Fin 8, (((1 : Int32) <<< (Int32.ofNat c.1 &&& 31)) >>> (Int32.ofNat j.1 &&& 31)) &&& 1 = if j = c then 1 else 0 := by decide +kernel
theorem cbit_or {b : Int32} (hj : j < 8) (hc : c < 8) : cbit (b ||| (1 <<< (Int32.ofNat c &&& 31))) j ↔ (j = c ∨ cbit b j) := by
  unfold cbit
  rw [Int32.shiftRight_or, cbit_d, Int32.or_eq_zero_iff, cbit_1 ⟨j, hj⟩ ⟨c, hc⟩]
  by_cases e : j = c
  · subst e
    rw [if_pos rfl]
    exact ⟨fun _ => Or.inl rfl, fun _ h => absurd h.2 (by decide)⟩
  · rw [if_neg (fun h => e (congrArg Fin.val h))]
    exact ⟨fun h => Or.inr (fun h' => h ⟨h', rfl⟩), fun h h' => h.elim e (fun h => h h'.1)⟩
theorem up_L {f : Nat → Int64} {g : Nat → Int64} (hf : ∀ i, i < k → g i = f i) : ∀ i, i < k → vp_updL g j v i = va_up f j v i := by
  intro i hi
  by_cases e : i = j
  · simp [vp_updL, va_up, e]
  · simp [vp_updL, va_up, e, hf i hi]
theorem cM.go (h : cM a p q N tb lo hi Z) (hi' : i ≤ 800) : cM (a.sI 9 q 0 (Int32.ofNat i)) p q N tb lo hi (Z.go i) := by
  obtain ⟨h1, h2, h3, hs, he, hw⟩ := h
  exact ⟨h1, h2, h3, ⟨hs.1, ⟨mh_u_at (X := a.I) (c := 9) (p := q) (k := 0) (v := Int32.ofNat i), hi'⟩, hs.2.2⟩, he, hw⟩
theorem cM.ti (h : cM a p q N tb lo hi Z) : cM (a.sL 9 q 1 v) p q N tb lo hi (Z.ti v) := by
  obtain ⟨h1, h2, h3, hs, he, hw⟩ := h
  exact ⟨h1, h2, h3, ⟨hs.1, hs.2.1, mh_u_at (X := a.L) (c := 9) (p := q) (k := 1) (v := v), hs.2.2.2⟩, he, hw⟩
theorem cM.ac (h : cM a p q N tb lo hi Z) : cM (a.sAL 9 q 2 (vp_updL (a.AL 9 q 2) j v)) p q N tb lo hi (Z.ac j v) := by
  obtain ⟨h1, h2, h3, hs, he, hw⟩ := h
  refine ⟨h1, h2, h3, ⟨hs.1, hs.2.1, hs.2.2.1, fun i hi => ?_, hs.2.2.2.2⟩, he, hw⟩
  rw [AL_at]
  exact up_L hs.2.2.2.1 i hi
theorem cM.us (h : cM a p q N tb lo hi Z) (hc : c < 8) : cM ((a.sAL 9 q 4 (vp_updL (a.AL 9 q 4) c v)).sI 9 q 6 (a.I 9 q 6 ||| (1 <<< (Int32.ofNat c &&& 31)))) p q N tb lo hi (Z.us c v) := by
  obtain ⟨h1, h2, h3, ⟨s1, s2, s3, s4, s5, s6, s7, s8⟩, he, hw⟩ := h
  refine ⟨h1, h2, h3, ⟨s1, s2, s3, s4, s5, fun i hi => ?_, s7, fun i hi => ?_⟩, he, hw⟩
  · show (a.sAL 9 q 4 (vp_updL (a.AL 9 q 4) c v)).AL 9 q 4 i = (va_up Z.1.2.2.2.2 c (some v) i).getD 0
    rw [AL_at]
    by_cases e : i = c
    · subst e
      rw [va_eq]
      simp [vp_updL]
    · rw [va_ne e, show vp_updL (a.AL 9 q 4) c v i = a.AL 9 q 4 i by simp [vp_updL, e]]
      exact s6 i hi
  · show cbit (mh_u a.I 9 q 6 (a.I 9 q 6 ||| (1 <<< (Int32.ofNat c &&& 31))) 9 q 6) i ↔ (va_up Z.1.2.2.2.2 c (some v) i).isSome = true
    rw [mh_u_at, cbit_or hi hc]
    by_cases e : i = c
    · subst e
      rw [va_eq]
      exact ⟨fun _ => rfl, fun _ => Or.inl rfl⟩
    · rw [va_ne e]
      exact ⟨fun h => (s8 i hi).mp (h.resolve_left e), fun h => Or.inr ((s8 i hi).mpr h)⟩
theorem cM.ch (h : cM a p q N tb lo hi Z) (hc : c < 8) : cM ((a.sAL 9 q 3 (vp_updL (a.AL 9 q 3) c v)).sI 9 q 5 (a.I 9 q 5 ||| (1 <<< (Int32.ofNat c &&& 31)))) p q N tb lo hi (Z.ch c v) := by
  obtain ⟨h1, h2, h3, ⟨s1, s2, s3, s4, s5, s6, s7, s8⟩, he, hw⟩ := h
  refine ⟨h1, h2, h3, ⟨s1, s2, s3, s4, fun i hi => ?_, s6, fun i hi => ?_, s8⟩, he, hw⟩
  · show (a.sAL 9 q 3 (vp_updL (a.AL 9 q 3) c v)).AL 9 q 3 i = (va_up Z.1.2.2.2.1 c (some v) i).getD 0
    rw [AL_at]
    by_cases e : i = c
    · subst e
      rw [va_eq]
      simp [vp_updL]
    · rw [va_ne e, show vp_updL (a.AL 9 q 3) c v i = a.AL 9 q 3 i by simp [vp_updL, e]]
      exact s5 i hi
  · show cbit (mh_u a.I 9 q 5 (a.I 9 q 5 ||| (1 <<< (Int32.ofNat c &&& 31))) 9 q 5) i ↔ (va_up Z.1.2.2.2.1 c (some v) i).isSome = true
    rw [mh_u_at, cbit_or hi hc]
    by_cases e : i = c
    · subst e
      rw [va_eq]
      exact ⟨fun _ => rfl, fun _ => Or.inl rfl⟩
    · rw [va_ne e]
      exact ⟨fun h => (s7 i hi).mp (h.resolve_left e), fun h => Or.inr ((s7 i hi).mpr h)⟩
theorem cM.tk (h : cM a p q N tb lo hi Z) : cM (a.sAL 5 32 1 (vp_updL (a.AL 5 32 1) j v)) p q N tb lo hi (Z.tk j v) := by
  obtain ⟨h1, h2, h3, hs, he, hw⟩ := h
  refine ⟨h1, h2, h3, hs, he, fun hp i hi => ?_⟩
  rw [AL_at]
  exact up_L (hw hp) i hi
theorem cM.er {x : Int32} (h : cM a p q N tb lo hi Z) : cM (a.sI 7 p 6 x) p q N tb lo hi Z := by
  obtain ⟨h1, h2, h3, hs, he, hw⟩ := h
  exact ⟨h1, h2, h3, hs, he, hw⟩
theorem cM.la {x : Int32} (h : cM a p q N tb lo hi Z) : cM (a.sI 10 (p + 12) 4 x) p q N tb lo hi Z := by
  obtain ⟨h1, h2, h3, hs, he, hw⟩ := h
  exact ⟨h1, h2, h3, hs, he, hw⟩
theorem cM.cvL {l : Bool} (h : cM a p q N tb lo hi Z) : cM (cvL (p + 12) a l) p q N tb lo hi Z := by
  cases l with
  | true => exact h.la
  | false => exact h
theorem cMf.cvL {l : Bool} (h : cMf p q a0 a) : cMf p q a0 (cvL (p + 12) a l) := by
  cases l with
  | true => exact h.sI (Or.inr (Or.inr (Or.inl ⟨rfl, rfl, rfl⟩)))
  | false => exact h
end
