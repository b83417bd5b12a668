/-! reductions keep bounds and nodes; the first object: reduce -/
section
variable {Z Z' : mv_Z} {v w x : Int64} {i j m y A B D op N k : Nat} {tb : Nat → ms_N} {lo hi : Int64}
theorem mv_lm_i (h : mv_lm v = true) : 0 ≤ v.toInt ∧ v.toInt ≤ 4611686018427387904 := by
  have h := of_decide_eq_true (p := 0 ≤ v ∧ v ≤ 4611686018427387904) h
  rw [Int64.le_iff_toInt_le, Int64.le_iff_toInt_le] at h
  exact h
theorem mv_wn_S : (Z.wn i j).S = Z.S := by
  unfold mv_Z.wn
  split <;> rfl
theorem mv_py_S : (Z.py i j k v).S = Z.S := by
  unfold mv_Z.py
  split <;> rfl
theorem mv_wn_l : (Z.wn i j).lf = Z.lf := by
  unfold mv_Z.wn
  split <;> rfl
theorem mv_py_l : (Z.py i j k v).lf = Z.lf := by
  unfold mv_Z.py
  split <;> rfl
theorem mv_ok_ac (h : mv_ok Z.S) (h1 : 0 ≤ v.toInt) (h2 : v.toInt ≤ 4611686018427387904) : mv_ok (Z.ac j v).S := by
  refine ⟨fun i => ?_, h.2⟩
  show 0 ≤ (va_up Z.S.ac j v i).toInt ∧ (va_up Z.S.ac j v i).toInt ≤ _
  by_cases e : i = j
  · rw [e, va_eq]
    exact ⟨h1, h2⟩
  · rw [va_ne e]
    exact h.1 i
theorem mv_ok_us (h : mv_ok Z.S) (h1 : mv_in v) : mv_ok (Z.us j v).S := by
  refine ⟨h.1, h.2.1, fun i w hw => ?_⟩
  have hw : va_up Z.S.us j (some v) i = some w := hw
  by_cases e : i = j
  · rw [e, va_eq] at hw
    cases hw
    exact h1
  · rw [va_ne e] at hw
    exact h.2.2 i w hw
theorem mv_ok_ch (h : mv_ok Z.S) (h1 : mv_in v) : mv_ok (Z.ch j v).S := by
  refine ⟨h.1, fun i w hw => ?_, h.2.2⟩
  have hw : va_up Z.S.ch j (some v) i = some w := hw
  by_cases e : i = j
  · rw [e, va_eq] at hw
    cases hw
    exact h1
  · rw [va_ne e] at hw
    exact h.2.1 i w hw
theorem mv_pos (hv : ¬ v ≤ 0) : 0 < v.toInt := by
  have := Int64.not_le.mp hv
  rw [Int64.lt_iff_toInt_lt] at this
  exact this
theorem mv_min_i (hv : ¬ v ≤ 0) (hw : 0 ≤ w.toInt) : 0 ≤ (mv_min v w).toInt ∧ (mv_min v w).toInt ≤ w.toInt := by
  have := mv_pos hv
  unfold mv_min
  split
  · rename_i h
    rw [Int64.le_iff_toInt_le] at h
    omega
  · omega
theorem mv_sub_i (h1 : 0 ≤ x.toInt) (h2 : x.toInt ≤ w.toInt) (h3 : w.toInt ≤ 4611686018427387904) : (w + -x).toInt = w.toInt - x.toInt := by
  rw [Int64.toInt_add, mv_neg ⟨by omega, by omega⟩]
  exact bm64 (by omega) (by omega)
theorem mv_p1_ok (h : mv_ok Z.S) (hv : ¬ v ≤ 0) : mv_ok (mv_p1 A D y m Z v).S ∧ (mv_p1 A D y m Z v).S.at = y := by
  have hk := h.1 (A * 4 + D)
  have hx := mv_min_i hv hk.1
  unfold mv_p1
  dsimp only
  generalize mv_min v (Z.S.ac (A * 4 + D)) = x at *
  have hs := mv_sub_i hx.1 hx.2 hk.2
  have h2 : mv_ok ((Z.go y).ac (A * 4 + D) (Z.S.ac (A * 4 + D) + -x)).S := mv_ok_ac (Z := Z.go y) h (by omega) (by omega)
  split
  · rw [mv_wn_S]
    exact ⟨h2, rfl⟩
  · exact ⟨h2, rfl⟩
theorem mv_pay_ok (h : mv_ok Z.S) (h2 : (mv_pay op A B D y m Z v).2 = true) : mv_ok (mv_pay op A B D y m Z v).1.S ∧ (mv_pay op A B D y m Z v).1.S.at = y := by
  unfold mv_pay at *
  by_cases hv : v ≤ 0
  · rw [if_pos hv] at *
    dsimp only
    rw [mv_wn_S]
    exact ⟨h, rfl⟩
  · rw [if_neg hv] at *
    have h1 := mv_p1_ok (A := A) (D := D) (y := y) (m := m) h hv
    generalize mv_p1 A D y m Z v = Z1 at *
    unfold mv_p2 at *
    by_cases ho : op = 1
    · rw [if_pos ho]
      dsimp only
      split
      · exact h1
      · rw [mv_py_S]
        exact h1
    · rw [if_neg ho] at *
      have := mv_lm_i h2
      exact ⟨mv_ok_ac h1.1 this.1 this.2, h1.2⟩
end
section
variable {Z Z' : mv_Z} {A B D x y z N : Nat} {v : Int64} {u : Nat × Nat} {R : mv_R} {tb : Nat → ms_N} {lo hi : Int64}
theorem mv_s1_1 : mv_s1 R lo hi Z (1, A, B, D, v, x, y, z, u) = (match R.1 x with | none => .error 6 | some w => if (mv_pay 1 A B D y Z.S.at Z w).2 = true then .ok (some (mv_pay 1 A B D y Z.S.at Z w).1) else .error 6) := rfl
theorem mv_s1_2 : mv_s1 R lo hi Z (2, A, B, D, v, x, y, z, u) = (match R.1 x with | none => .error 6 | some w => if (mv_pay 2 A B D y Z.S.at Z w).2 = true then .ok (some (mv_pay 2 A B D y Z.S.at Z w).1) else .error 6) := rfl
theorem mv_s1_3 : mv_s1 R lo hi Z (3, A, B, D, v, x, y, z, u) = (match R.2 x with | none => .error 6 | some b => .ok (some (Z.go (if b = true then y else z)))) := rfl
theorem mv_s1_5 : mv_s1 R lo hi Z (5, A, B, D, v, x, y, z, u) = (match R.1 x with | none => .error 6 | some w => .ok (some (mv_let A y Z.S.at Z w))) := rfl
theorem mv_s1_6 : mv_s1 R lo hi Z (6, A, B, D, v, x, y, z, u) = (match R.2 x with | none => .error 6 | some b => .ok (some (mv_ass y Z.S.at Z b))) := rfl
theorem mz_so0 : ∀ o : Fin 33, mz_so o.1 = 0 → (o.1 = 0 ∨ o.1 = 1 ∨ o.1 = 2 ∨ o.1 = 3 ∨ o.1 = 4 ∨ o.1 = 5 ∨ o.1 = 6) := by decide +kernel
theorem mv_step_ok (hS : mv_ok Z.S) (ht : mv_tok tb) (hok : mz_ok tb N 100 0 Z.S.at) (h : mv_step tb lo hi Z = .ok (some Z')) : mv_ok Z'.S ∧ mz_ok tb N 100 0 Z'.S.at := by
  unfold mv_step at h
  have hin := mv_E_in (lo := lo) (hi := hi) hS ht 100
  obtain ⟨-, hso, had, hx, -, hy, hz⟩ := mz_un (k := 99) hok
  rcases hcm : tb Z.S.at with ⟨op, A, B, D, v, x, y, z, u⟩
  rw [hcm] at h hso had hx hy hz
  dsimp only at hso hx hy hz
  have h33 := mz_so33 hso (by decide)
  have ho := mz_so0 ⟨op, h33⟩ hso
  dsimp only at ho
  generalize mv_E tb Z.S lo hi 100 = R at *
  rcases ho with rfl | rfl | rfl | rfl | rfl | rfl | rfl
  · rw [mv_s1_0] at h
    split at h
    · cases h
    · cases h
      unfold mv_cl
      refine ⟨mv_ok_ac (by rw [mv_py_S]; exact hS) (by decide) (by decide), ?_⟩
      show mz_ok tb N 100 0 (Z.py _ _ _ _).S.at
      rw [mv_py_S]
      exact hok
  · rw [mv_s1_1] at h
    cases hv : R.1 x with
    | none =>
      rw [hv] at h
      cases h
    | some w =>
      rw [hv] at h
      dsimp only at h
      split at h
      · rename_i hb
        cases h
        have := mv_pay_ok hS hb
        exact ⟨this.1, by rw [this.2]; exact mz_dn (hy (by decide)).2⟩
      · cases h
  · rw [mv_s1_2] at h
    cases hv : R.1 x with
    | none =>
      rw [hv] at h
      cases h
    | some w =>
      rw [hv] at h
      dsimp only at h
      split at h
      · rename_i hb
        cases h
        have := mv_pay_ok hS hb
        exact ⟨this.1, by rw [this.2]; exact mz_dn (hy (by decide)).2⟩
      · cases h
  · rw [mv_s1_3] at h
    cases hv : R.2 x with
    | none =>
      rw [hv] at h
      cases h
    | some b =>
      rw [hv] at h
      cases h
      refine ⟨hS, ?_⟩
      show mz_ok tb N 100 0 (if b = true then y else z)
      split
      · exact mz_dn (hy (by decide)).2
      · exact mz_dn (hz (by decide)).2
  · rw [mv_s1_4] at h
    split at h
    · cases h
    · split at h
      · cases h
      · cases h
        exact ⟨hS, mz_dn (hy (by decide)).2⟩
  · rw [mv_s1_5] at h
    cases hv : R.1 x with
    | none =>
      rw [hv] at h
      cases h
    | some w =>
      rw [hv] at h
      cases h
      refine ⟨?_, mz_dn (hy (by decide)).2⟩
      unfold mv_let
      dsimp only
      refine mv_ok_us (Z := if (Z.S.us A).isSome = true then Z.wn 4 Z.S.at else Z) ?_ (hin x w hv)
      split
      · rw [mv_wn_S]
        exact hS
      · exact hS
  · rw [mv_s1_6] at h
    cases hv : R.2 x with
    | none =>
      rw [hv] at h
      cases h
    | some b =>
      rw [hv] at h
      cases h
      refine ⟨?_, mz_dn (hy (by decide)).2⟩
      unfold mv_ass
      show mv_ok (if b = true then Z else Z.wn 5 Z.S.at).S
      split
      · exact hS
      · rw [mv_wn_S]
        exact hS
end
section
variable {d e n sl N : Nat} {a a0 a1 a2 : mh_A} {f0 : Nat → mi_C} {Q : (Option Value ⊕ Nat) → mi_H → Prop} {p q : Nat} {tb : Nat → ms_N} {lo hi : Int64} {Z : mv_Z}
theorem cfl_01 {b : Bool} : cfl b = 0 ∨ cfl b = 1 := by cases b <;> decide
theorem cm_redl (hn : 575 ≤ n) : ∀ (t i : Nat) (b : Bool) (a : mh_A) (Z : mv_Z) (o4 o5 : Option Value), i + t = 148 → cM a p q N tb lo hi Z → a.I 7 p 6 = 0 → a.I 10 (p + 12) 4 = 0 → mv_ok Z.S → mz_ok tb N 100 0 Z.S.at → (∀ a' b' Z', mv_red tb lo hi t b Z = .ok (b', Z') → cMf p q a a' → cM a' p q N tb lo hi Z' → a'.I 7 p 6 = 0 → a'.I 10 (p + 12) 4 = 0 → mv_ok Z'.S → mz_ok tb N 100 0 Z'.S.at → Q (.inl (some (.int (cfl b')))) (n, sl, hc a' f0)) → (∀ a' x r, mv_red tb lo hi t b Z = .error x → cMf p q a a' → a'.I 7 p 6 = Int32.ofNat x → Q (.inl (some (.int r))) (n, sl, hc a' f0)) → mi_W (e + 112) 80 4 [some (.ref p), some (.int (cfl b)), some (.int (Int32.ofNat i)), o4, o5] [] (n, sl, hc a f0) Q := by
  intro t
  induction t with
  | zero =>
    intro i b a Z o4 o5 hi' h hel hfl hS hok Kok Ker
    obtain ⟨hR, hqo, hq, hp68, hpo, hro, heo⟩ := h.R
    have hc01 := cfl_01 (b := b)
    refine b_80_4 _ _ _ ?_ ?_
    · intro z4
      refine b_80_252 _ _ _ (by first | assumption | (exact mL_get (by decide)) | (rw [mL_len]; decide) | (simp only [mL_set]; exact mL_get (by decide)) | (simp only [mL_set, mL_len]; decide) | (exact va_eq) | (exact (va_ne (by omega)).trans (by assumption)) | (exact (va_ne (by omega)).trans va_eq) | (exact (va_ne (by omega)).trans ((va_ne (by omega)).trans (by assumption))) | (exact (va_ne (by omega)).trans ((va_ne (by omega)).trans ((va_ne (by omega)).trans (by assumption)))) | rfl | (exact Or.inl rfl) | (exact Or.inr rfl) | omega | (exact Nat.le_of_ble_eq_true rfl) | decide | (exact ⟨by decide, rfl, by decide⟩)) ?_
      exact Kok a b Z rfl cMf.re h hel hfl hS hok
    · intro z4
      exact absurd ((i_le (a := 148) rfl rfl (by omega) (by omega)).mpr (by omega)) z4
  | succ t ih =>
    intro i b a Z o4 o5 hi' h hel hfl hS hok Kok Ker
    obtain ⟨hR, hqo, hq, hp68, hpo, hro, heo⟩ := h.R
    have hc01 := cfl_01 (b := b)
    have hstep : ∀ s, mv_step tb lo hi Z = s → mv_red tb lo hi (t + 1) b Z = (match s with | .error e => .error e | .ok none => .ok (b, Z) | .ok (some Z') => mv_red tb lo hi t true Z') := fun s hs => by
      rw [← hs]
      rfl
    have KK : cKs n sl f0 Q (e + 112) a p q N tb lo hi Z i (cfl b) (mv_step tb lo hi Z) := by
      refine ⟨fun hs => ?_, fun Z' a' o4' o5' hs f1 k1 e1 g1 => ?_, fun x a' r hs f1 e1 => ?_⟩
      · exact Kok a b Z (hstep _ hs) cMf.re h hel hfl hS hok
      · have hso := mv_step_ok hS h.2.2.1.2.2 hok hs
        refine ih (i + 1) true a' Z' o4' o5' (by omega) k1 e1 g1 hso.1 hso.2 (fun a2 b2 Z2 hr f2 k2 e2 g2 s2 o2 => ?_) (fun a2 x r hr f2 e2 => ?_)
        · exact Kok a2 b2 Z2 ((hstep _ hs).trans hr) (f1.trans f2) k2 e2 g2 s2 o2
        · exact Ker a2 x r ((hstep _ hs).trans hr) (f1.trans f2) e2
      · exact Ker a' x r (hstep _ hs) f1 e1
    obtain ⟨-, hso, -⟩ := mz_un (k := 99) hok
    have h33 := mz_so33 hso (by decide)
    have ho := mz_so0 ⟨(tb Z.S.at).1, h33⟩ hso
    dsimp only at ho
    unfold mv_step at KK
    refine b_80_4 _ _ _ ?_ ?_
    · intro z4
      exact absurd ((i_le (a := 148) rfl rfl (by omega) (by omega)).mp z4) (by omega)
    · intro z4
      refine b_80_11 _ _ _ (by first | (exact hc_o (by first | assumption | (exact ⟨by decide, rfl⟩))) | assumption | (exact (hc_far (by omega)).trans (by assumption))) (by omega) (by first | rfl | assumption) ?_ ?_
      · intro z11
        exact absurd hel z11
      · intro z11
        rcases hcm : tb Z.S.at with ⟨op, A, B, D, v, x, y, z, u⟩
        rw [hcm] at ho KK
        dsimp only at ho
        rcases ho with rfl | rfl | rfl | rfl | rfl | rfl | rfl
        · exact cm_s0 hn h hfl hel hS hok hc01 hcm KK
        · exact cm_s1 hn h hfl hel hS hok hc01 hcm KK
        · exact cm_s2 hn h hfl hel hS hok hc01 hcm KK
        · exact cm_s3 hn h hfl hel hS hok hc01 hcm KK
        · exact cm_s4 hn h hfl hel hS hok hc01 hcm KK
        · exact cm_s5 hn h hfl hel hS hok hc01 hcm KK
        · exact cm_s6 hn h hfl hel hS hok hc01 hcm KK
theorem cm_red (hn : 575 ≤ n) (h : cM a p q N tb lo hi Z) (hel : a.I 7 p 6 = 0) (hfl : a.I 10 (p + 12) 4 = 0) (hS : mv_ok Z.S) (hok : mz_ok tb N 100 0 Z.S.at) (Kok : ∀ a' b' Z', mv_red tb lo hi 148 false Z = .ok (b', Z') → cMf p q a a' → cM a' p q N tb lo hi Z' → a'.I 7 p 6 = 0 → a'.I 10 (p + 12) 4 = 0 → mv_ok Z'.S → mz_ok tb N 100 0 Z'.S.at → Q (.inl (some (.int (cfl b')))) (n, sl, hc a' f0)) (Ker : ∀ a' x r, mv_red tb lo hi 148 false Z = .error x → cMf p q a a' → a'.I 7 p 6 = Int32.ofNat x → Q (.inl (some (.int r))) (n, sl, hc a' f0)) : mi_W (e + 112) 80 0 (mi_en 5 [.ref p]) [] (n, sl, hc a f0) Q := by
  refine b_80_0 _ _ _ ?_
  exact cm_redl hn 148 0 false a Z _ _ rfl h hel hfl hS hok Kok Ker
end
