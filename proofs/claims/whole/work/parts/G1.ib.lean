/-! the beginning: both objects are made; what lies in the heap then, by the kernel's run -/
def mp_f0 : Nat → mi_C := va_up (mi_fo 0 (fun _ => 0)) mi_SC (.inr (0, []))
def mp_hh (r : Option ((Option Value ⊕ Nat) × mi_H)) : mi_H := match r with
  | some (_, h) => h
  | none => (0, 0, mp_f0)
theorem mp_get {r : Option ((Option Value ⊕ Nat) × mi_H)} {o : Option Value ⊕ Nat} {a b : Nat} (h : ∃ f, r = some (o, a, b, f)) : r = some (o, mp_hh r) ∧ mp_hh r = (a, b, (mp_hh r).2.2) := by
  obtain ⟨f, rfl⟩ := h
  exact ⟨rfl, rfl⟩
theorem mp_ovt {h : mi_H} {a b : Nat} {c : mi_C} (e : h = (a, b, h.2.2)) : mi_ov c h = (a, b, va_up h.2.2 mi_SC c) := by
  obtain ⟨x, y, f⟩ := h
  simp only [Prod.mk.injEq] at e
  obtain ⟨rfl, rfl, -⟩ := e
  rfl
def mp_h0 : mi_H := (1, mt_nf 0, va_up mp_f0 0 (.inr (0, mt_df 0)))
def mp_r1 : Option ((Option Value ⊕ Nat) × mi_H) := mi_x 3000000 790 0 0 (mi_en 1 [.ref 0]) [] mp_h0
def mp_h1n : mi_H := (506, 29162, va_up (mp_hh mp_r1).2.2 505 (.inr (12, mt_df 12)))
def mp_r2 : Option ((Option Value ⊕ Nat) × mi_H) := mi_x 3000000 790 136 0 (mi_en 1 [.ref 505]) [] mp_h1n
def mp_h3 : mi_H := (575, 101209, va_up (mp_hh mp_r2).2.2 574 (.inl (3, 1, .inr (.inl (fun _ => 0)))))
def mp_io (r : Option ((Option Value ⊕ Nat) × mi_H)) (v : Option Value) (n s : Nat) : Bool := match r with
  | some (.inl w, h) => decide (w = v) && Nat.beq h.1 n && Nat.beq h.2.1 s
  | _ => false
def mp_o (f : Nat → mi_C) (p ci : Nat) (fs : List Value) : Bool := match f p with
  | .inr (c, l) => Nat.beq c ci && decide (l = fs)
  | _ => false
def mp_ai (f : Nat → mi_C) (p k n : Nat) : Bool := match f p with
  | .inl (k', m, .inl _) => Nat.beq k' k && Nat.beq m n
  | _ => false
def mp_al (f : Nat → mi_C) (p n : Nat) : Bool := match f p with
  | .inl (k', m, .inr (.inl _)) => Nat.beq k' 3 && Nat.beq m n
  | _ => false
def mp_ar (f : Nat → mi_C) (p k n : Nat) : Bool := match f p with
  | .inl (k', m, .inr (.inr (.inr (.inr _)))) => Nat.beq k' k && Nat.beq m n
  | _ => false
def mp_st (f : Nat → mi_C) (p : Nat) : Bool := match f p with
  | .inr (c, _) => Nat.beq c 17
  | _ => false
def mp_fi (f : Nat → mi_C) (p k : Nat) : Int32 := match f p with
  | .inr (_, l) => match l[k]? with
    | some (.int v) => v
    | _ => 0
  | _ => 0
def mp_fl (f : Nat → mi_C) (p k : Nat) : Int64 := match f p with
  | .inr (_, l) => match l[k]? with
    | some (.long v) => v
    | _ => 0
  | _ => 0
def mp_fr (f : Nat → mi_C) (p k : Nat) : Nat := match f p with
  | .inr (_, l) => match l[k]? with
    | some (.ref r) => r
    | _ => 0
  | _ => 0
def mp_gi (f : Nat → mi_C) (q : Nat) : Nat → Int32 := match f q with
  | .inl (_, _, .inl g) => g
  | _ => fun _ => 0
def mp_gl (f : Nat → mi_C) (q : Nat) : Nat → Int64 := match f q with
  | .inl (_, _, .inr (.inl g)) => g
  | _ => fun _ => 0
def mp_gr (f : Nat → mi_C) (q : Nat) : Nat → Option Nat := match f q with
  | .inl (_, _, .inr (.inr (.inr (.inr g)))) => g
  | _ => fun _ => none
/-- what the first object holds -/
def mh_ab (f : Nat → mi_C) : mh_A := (fun _ p k => mp_fi f p k, fun _ p k => mp_fl f p k, fun c p => mp_fr f p (if c = 7 then 3 else 1), fun _ p k => mp_gi f (mp_fr f p k), fun _ p k => mp_gl f (mp_fr f p k))
/-- what the second object holds -/
def mg_ab (f : Nat → mi_C) : mg_A := (fun q => if q = 505 then (fun k => mp_fi f 505 k) else mp_gi f q, fun q => if q = 505 then (fun k => mp_fl f 505 k) else mp_gl f q, fun k p => if k = 0 then (fun _ => mp_fi f p 0) else mp_gi f (p + k), fun k p => if k = 0 then (fun _ => mp_fl f p 1) else mp_gl f (p + k), .null, mp_gr f 568, fun q => if q = 0 then mi_NC else if q = 1 then mi_NS else 0)
def mp_sc (f : Nat → mi_C) (q : Nat) : Bool := match mh_t q with
  | (kd, len, c, p, k) => if kd = 9 then mp_o f q c (mh_f (mh_ab f) c q) else if kd = 3 then mp_al f q len && Nat.beq (mp_fr f p k) q else if kd = 4 then true else mp_ai f q kd len && Nat.beq (mp_fr f p k) q
def mp_sg (f : Nat → mi_C) (q : Nat) : Bool := match mg_t (fun _ => 0) q with
  | (kd, len, k) => if kd = 9 then (Nat.beq q 505 && mp_o f q 12 (mL 88 (mr_S (fun k => mp_fi f 505 k) (fun k => mp_fl f 505 k) .null))) else if kd = 8 then mp_o f q 13 (mg_f (mg_ab f) q) else if kd = 7 then (mp_al f q len && Nat.ble 1 k && Nat.ble k q) else if kd = 4 then (mp_ai f q 2 len && Nat.ble 1 k && Nat.ble k q) else if kd = 3 then (mp_al f q len && !(Nat.beq q 505)) else if kd = 6 then (mp_ar f q 6 len && Nat.beq q 568) else if kd = 5 then true else (mp_ai f q kd len && !(Nat.beq q 505))
section
variable {f F : Nat → mi_C} {p ci k n q : Nat} {fs : List Value}
theorem mp_o_ok (h : mp_o f p ci fs = true) : f p = .inr (ci, fs) := by
  unfold mp_o at h
  split at h
  · rename_i c l hq
    rw [Bool.and_eq_true] at h
    rw [hq, Nat.eq_of_beq_eq_true h.1, of_decide_eq_true h.2]
  · cases h
theorem mp_st_ok (h : mp_st f p = true) : ∃ fs, f p = .inr (17, fs) := by
  unfold mp_st at h
  split at h
  · rename_i c l hq
    exact ⟨l, by rw [hq, Nat.eq_of_beq_eq_true h]⟩
  · cases h
theorem mp_ai_ok (h : mp_ai f p k n = true) : f p = .inl (k, n, .inl (mp_gi f p)) := by
  unfold mp_ai at h
  unfold mp_gi
  split at h
  · rename_i k' m g hq
    rw [Bool.and_eq_true] at h
    rw [hq, Nat.eq_of_beq_eq_true h.1, Nat.eq_of_beq_eq_true h.2]
  · cases h
theorem mp_al_ok (h : mp_al f p n = true) : f p = .inl (3, n, .inr (.inl (mp_gl f p))) := by
  unfold mp_al at h
  unfold mp_gl
  split at h
  · rename_i k' m g hq
    rw [Bool.and_eq_true] at h
    rw [hq, Nat.eq_of_beq_eq_true h.1, Nat.eq_of_beq_eq_true h.2]
  · cases h
theorem mp_ar_ok (h : mp_ar f p k n = true) : f p = .inl (k, n, .inr (.inr (.inr (.inr (mp_gr f p))))) := by
  unfold mp_ar at h
  unfold mp_gr
  split at h
  · rename_i k' m g hq
    rw [Bool.and_eq_true] at h
    rw [hq, Nat.eq_of_beq_eq_true h.1, Nat.eq_of_beq_eq_true h.2]
  · cases h
theorem mp_io_ok {r : Option ((Option Value ⊕ Nat) × mi_H)} {v : Option Value} {n s : Nat} (h : mp_io r v n s = true) : ∃ f, r = some (.inl v, n, s, f) := by
  unfold mp_io at h
  split at h
  · rename_i w h1
    rw [Bool.and_eq_true, Bool.and_eq_true] at h
    obtain ⟨⟨h2, h3⟩, h4⟩ := h
    obtain ⟨a, b, f⟩ := h1
    have e1 : a = n := Nat.eq_of_beq_eq_true h3
    have e2 : b = s := Nat.eq_of_beq_eq_true h4
    rw [of_decide_eq_true h2, e1, e2]
    exact ⟨f, rfl⟩
  · cases h
theorem mp_sc_ok (h : mp_sc f q = true) (hF : F q = f q) : f q = mh_c (mh_ab f) F q (mh_t q) := by
  unfold mp_sc at h
  generalize mh_t q = T at *
  obtain ⟨kd, len, c, p, k⟩ := T
  dsimp only at h
  unfold mh_c
  dsimp only
  by_cases h9 : kd = 9
  · rw [if_pos h9] at h ⊢
    exact mp_o_ok h
  · rw [if_neg h9] at h ⊢
    by_cases h3 : kd = 3
    · rw [if_pos h3] at h ⊢
      rw [Bool.and_eq_true] at h
      have e : mp_fr f p k = q := Nat.eq_of_beq_eq_true h.2
      show f q = .inl (3, len, .inr (.inl (mp_gl f (mp_fr f p k))))
      rw [e]
      exact mp_al_ok h.1
    · rw [if_neg h3] at h ⊢
      by_cases h4 : kd = 4
      · rw [if_pos h4]
        exact hF.symm
      · rw [if_neg h4] at h ⊢
        rw [Bool.and_eq_true] at h
        have e : mp_fr f p k = q := Nat.eq_of_beq_eq_true h.2
        show f q = .inl (kd, len, .inl (mp_gi f (mp_fr f p k)))
        rw [e]
        exact mp_ai_ok h.1
theorem mg_ab_I (hq : ¬ q = 505) : (mg_ab f).I q = mp_gi f q := if_neg hq
theorem mg_ab_J (hq : ¬ q = 505) : (mg_ab f).J q = mp_gl f q := if_neg hq
theorem mg_ab_P (hk : ¬ k = 0) : (mg_ab f).P k p = mp_gi f (p + k) := if_neg hk
theorem mg_ab_L (hk : ¬ k = 0) : (mg_ab f).L k p = mp_gl f (p + k) := if_neg hk
theorem mp_nb (h : (!(Nat.beq q 505)) = true) : ¬ q = 505 := by
  intro e
  subst e
  cases h
theorem mp_sg_ok (h : mp_sg f q = true) (hq : q < 575) (h5 : (mg_t (fun _ => 0) q).1 = 5 → F q = f q) : f q = mg_c (mg_ab f) F q (mg_t (mg_ab f).D q) := by
  have eT : mg_t (mg_ab f).D q = mg_t (fun _ => 0) q := by rw [mg_tl hq, mg_tl hq]
  rw [eT]
  unfold mp_sg at h
  generalize mg_t (fun _ => 0) q = T at *
  obtain ⟨kd, len, k⟩ := T
  dsimp only at h h5
  unfold mg_c
  dsimp only
  by_cases h9 : kd = 9
  · rw [if_pos h9] at h ⊢
    rw [Bool.and_eq_true] at h
    exact mp_o_ok h.2
  · rw [if_neg h9] at h ⊢
    by_cases h8 : kd = 8
    · rw [if_pos h8] at h ⊢
      exact mp_o_ok h
    · rw [if_neg h8] at h ⊢
      by_cases h7 : kd = 7
      · rw [if_pos h7] at h ⊢
        rw [Bool.and_eq_true, Bool.and_eq_true] at h
        have k1 := Nat.le_of_ble_eq_true h.1.2
        have k2 := Nat.le_of_ble_eq_true h.2
        rw [mg_ab_L (by omega), show q - k + k = q by omega]
        exact mp_al_ok h.1.1
      · rw [if_neg h7] at h ⊢
        by_cases h4 : kd = 4
        · rw [if_pos h4] at h ⊢
          rw [Bool.and_eq_true, Bool.and_eq_true] at h
          have k1 := Nat.le_of_ble_eq_true h.1.2
          have k2 := Nat.le_of_ble_eq_true h.2
          rw [mg_ab_P (by omega), show q - k + k = q by omega]
          exact mp_ai_ok h.1.1
        · rw [if_neg h4] at h ⊢
          by_cases h3 : kd = 3
          · rw [if_pos h3] at h ⊢
            rw [Bool.and_eq_true] at h
            rw [mg_ab_J (mp_nb h.2)]
            exact mp_al_ok h.1
          · rw [if_neg h3] at h ⊢
            by_cases h6 : kd = 6
            · rw [if_pos h6] at h ⊢
              rw [Bool.and_eq_true] at h
              have e : q = 568 := Nat.eq_of_beq_eq_true h.2
              subst e
              exact mp_ar_ok h.1
            · rw [if_neg h6] at h ⊢
              by_cases h5' : kd = 5
              · rw [if_pos h5']
                exact (h5 h5').symm
              · rw [if_neg h5'] at h ⊢
                rw [Bool.and_eq_true] at h
                rw [mg_ab_I (mp_nb h.2)]
                exact mp_ai_ok h.1
end
def mp_f1 : Nat → mi_C := (mp_hh mp_r2).2.2
def mp_ck : List Bool := [mp_io mp_r1 none 505 29074,
  mp_io mp_r2 none 574 101208,
  (List.range 505).all (fun q => mp_sc mp_f1 q),
  (List.range 70).all (fun q => mp_sg mp_f1 (505 + q)),
  decide ((mh_ab mp_f1).I 1 1 1 = 0 ∧ (mh_ab mp_f1).I 3 15 6 = -1 ∧ (mh_ab mp_f1).I 6 35 5 = 0 ∧ (mh_ab mp_f1).I 8 42 6 = 0 ∧ (mh_ab mp_f1).I 8 42 7 = 0 ∧ (mh_ab mp_f1).I 11 54 10 = 0 ∧ (mh_ab mp_f1).I 11 54 11 = 0 ∧ (mh_ab mp_f1).I 0 0 9 = 0),
  (List.range 32).all (fun j => decide ((mh_ab mp_f1).AL 5 32 0 j = 0)),
  decide ((mg_ab mp_f1).I 505 1 = 0 ∧ (mg_ab mp_f1).I 505 3 = -1 ∧ (mg_ab mp_f1).I 505 4 = -1 ∧ (mg_ab mp_f1).I 505 59 = 0 ∧ (mg_ab mp_f1).I 505 65 = 0 ∧ (mg_ab mp_f1).I 505 66 = 0 ∧ (mg_ab mp_f1).I 505 73 = 0 ∧ (mg_ab mp_f1).I 505 75 = 0),
  (List.range 32).all (fun j => decide ((mg_ab mp_f1).J 550 j = 0)),
  (List.range 8).all (fun j => decide ((mg_ab mp_f1).P 4 531 j = 0 ∧ (mg_ab mp_f1).P 5 531 j = 0)),
  (List.range 2000).all (fun j => decide ((mg_ab mp_f1).B j = none)),
  mp_ar mp_f1 61 4 104,
  (List.range 104).all (fun j => decide (mp_gr mp_f1 61 j = some (80 + 4 * j))),
  mp_ar mp_f1 508 5 24,
  (List.range 24).all (fun j => decide (mp_gr mp_f1 508 j = some (mi_SC + 1 + 2 * (16 + j)))),
  (List.range mt_ns).all (fun c => mp_st mp_f1 (mi_SC + 1 + 2 * c)),
  mp_ai mp_f1 535 2 8,
  mp_ai mp_f1 536 2 8,
  mp_ar mp_f1 568 6 2000]
theorem mp_all : mp_ck.all id = true := by decide +kernel
theorem mp_at {k : Nat} {b : Bool} (h : mp_ck[k]? = some b) : b = true := by
  have := List.all_eq_true.mp mp_all b (List.mem_of_getElem? h)
  exact this
theorem mp_rg {p : Nat → Bool} {n j : Nat} (h : (List.range n).all p = true) (hj : j < n) : p j = true := List.all_eq_true.mp h j (List.mem_range.mpr hj)
