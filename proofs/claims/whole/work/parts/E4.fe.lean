/-! the second object: what a transaction works on -/
def gEv (b : mg_A) (Z : mv_Z) : Prop := (b.I 505 47 = Int32.ofNat Z.ws.1 ∧ Z.ws.1 ≤ 148 ∧ ∀ i, i < Z.ws.1 → b.I 543 i = Int32.ofNat (Z.ws.2 i).1 ∧ b.I 544 i = Int32.ofNat (Z.ws.2 i).2) ∧ (b.I 505 48 = Int32.ofNat Z.ps.1 ∧ Z.ps.1 ≤ 148 ∧ ∀ i, i < Z.ps.1 → b.I 545 i = Int32.ofNat (Z.ps.2 i).1 ∧ b.I 546 i = Int32.ofNat (Z.ps.2 i).2.1 ∧ b.I 547 i = Int32.ofNat (Z.ps.2 i).2.2.1 ∧ b.J 548 i = (Z.ps.2 i).2.2.2)
def gM (n : Nat) (b : mg_A) (p N : Nat) (tb : Nat → ms_N) (lo hi : Int64) (wal : Bool) (Z : mv_Z) : Prop := (b.s = .ref p ∧ p + 5 < n) ∧ (b.J 505 44 = lo ∧ b.J 505 45 = hi ∧ b.I 505 57 = cfl wal) ∧ (N ≤ 800 ∧ (∀ m, m < N → gRow b (tb m) m) ∧ mv_tok tb) ∧ mg_S b p Z.S ∧ gEv b Z ∧ (wal = true → ∀ j, j < 32 → b.J 550 j - b.J 549 j = Z.lf j)
/-- what a transaction leaves as it is -/
def gMf (p : Nat) (b b' : mg_A) : Prop := (b'.s = b.s ∧ b'.B = b.B ∧ b'.D = b.D) ∧ (∀ q, q < 505 ∨ (505 < q ∧ q < 543) ∨ 547 < q → b'.I q = b.I q) ∧ (∀ q, q < 548 ∨ 549 < q → b'.J q = b.J q) ∧ (∀ j, ¬ j = 46 → ¬ j = 47 → ¬ j = 48 → ¬ j = 58 → b'.I 505 j = b.I 505 j) ∧ ∀ k r, ¬ r = p → b'.P k r = b.P k r ∧ b'.L k r = b.L k r
section
variable {d n sl N : Nat} {b b0 b1 b2 : mg_A} {f0 : Nat → mi_C} {Q : (Option Value ⊕ Nat) → mi_H → Prop} {p q i j c k r m : Nat} {tb : Nat → ms_N} {lo hi v w : Int64} {Z : mv_Z} {wal : Bool}
theorem gMf.re : gMf p b b := ⟨⟨rfl, rfl, rfl⟩, fun _ _ => rfl, fun _ _ => rfl, fun _ _ _ _ _ => rfl, fun _ _ _ => ⟨rfl, rfl⟩⟩
theorem gMf.trans (h : gMf p b b1) (h' : gMf p b1 b2) : gMf p b b2 := ⟨⟨h'.1.1.trans h.1.1, h'.1.2.1.trans h.1.2.1, h'.1.2.2.trans h.1.2.2⟩, fun q hq => (h'.2.1 q hq).trans (h.2.1 q hq), fun q hq => (h'.2.2.1 q hq).trans (h.2.2.1 q hq), fun j h1 h2 h3 h4 => (h'.2.2.2.1 j h1 h2 h3 h4).trans (h.2.2.2.1 j h1 h2 h3 h4), fun k r hr => ⟨(h'.2.2.2.2 k r hr).1.trans (h.2.2.2.2 k r hr).1, (h'.2.2.2.2 k r hr).2.trans (h.2.2.2.2 k r hr).2⟩⟩
theorem gMf.sI {g : Nat → Int32} (h : gMf p b0 b) (h1 : 543 ≤ q) (h2 : q ≤ 547) : gMf p b0 (b.sI q g) := ⟨h.1, fun q' hq' => (va_ne (by omega)).trans (h.2.1 q' hq'), h.2.2.1, fun j e1 e2 e3 e4 => (congrFun (va_ne (f := b.I) (k := q) (j := 505) (v := g) (by omega)) j).trans (h.2.2.2.1 j e1 e2 e3 e4), h.2.2.2.2⟩
theorem gMf.sX {x : Int32} (h : gMf p b0 b) (hk : k = 46 ∨ k = 47 ∨ k = 48 ∨ k = 58) : gMf p b0 (b.sX k x) := ⟨h.1, fun q' hq' => (va_ne (by omega)).trans (h.2.1 q' hq'), h.2.2.1, fun j e1 e2 e3 e4 => (congrFun (va_eq (f := b.I) (k := 505)) j).trans ((va_ne (by omega)).trans (h.2.2.2.1 j e1 e2 e3 e4)), h.2.2.2.2⟩
theorem gMf.sJ {g : Nat → Int64} (h : gMf p b0 b) (h1 : 548 ≤ q) (h2 : q ≤ 549) : gMf p b0 (b.sJ q g) := ⟨h.1, h.2.1, fun q' hq' => (va_ne (by omega)).trans (h.2.2.1 q' hq'), h.2.2.2⟩
theorem gMf.sP {g : Nat → Int32} (h : gMf p b0 b) : gMf p b0 (b.sP k p g) := ⟨h.1, h.2.1, h.2.2.1, h.2.2.2.1, fun k' r hr => ⟨(mh_v_x (fun e => hr e.2)).trans (h.2.2.2.2 k' r hr).1, (h.2.2.2.2 k' r hr).2⟩⟩
theorem gMf.sL {g : Nat → Int64} (h : gMf p b0 b) : gMf p b0 (b.sL k p g) := ⟨h.1, h.2.1, h.2.2.1, h.2.2.2.1, fun k' r hr => ⟨(h.2.2.2.2 k' r hr).1, (mh_v_x (fun e => hr e.2)).trans (h.2.2.2.2 k' r hr).2⟩⟩
theorem gMf.vL {l : Bool} (h : gMf p b0 b) : gMf p b0 (gvL b l) := h.sX (Or.inl rfl)
theorem gM.rk (h : gM n b p N tb lo hi wal Z) (hS : mv_ok Z.S) : gRk n b p N tb Z.S lo hi := ⟨h.2.2.2.1, h.1.1, h.1.2, ⟨h.2.1.1, h.2.1.2.1⟩, h.2.2.1.1, h.2.2.1.2.1, hS, h.2.2.1.2.2⟩
theorem gM.x46 {x : Int32} (h : gM n b p N tb lo hi wal Z) : gM n (b.sX 46 x) p N tb lo hi wal Z := h
theorem gM.x58 {x : Int32} (h : gM n b p N tb lo hi wal Z) : gM n (b.sX 58 x) p N tb lo hi wal Z := h
theorem gM.vL {l : Bool} (h : gM n b p N tb lo hi wal Z) : gM n (gvL b l) p N tb lo hi wal Z := h
theorem P_at {g : Nat → Int32} : (b.sP k p g).P k p = g := mh_v_at
theorem L_at {g : Nat → Int64} : (b.sL k p g).L k p = g := mh_v_at
theorem gM.go (h : gM n b p N tb lo hi wal Z) (hi' : i ≤ 800) : gM n (b.sP 0 p (fun _ => Int32.ofNat i)) p N tb lo hi wal (Z.go i) := by
  obtain ⟨h1, h2, h3, hs, he, hw⟩ := h
  exact ⟨h1, h2, h3, ⟨hs.1, ⟨by rw [P_at]; rfl, hi'⟩, hs.2.2⟩, he, hw⟩
theorem gM.ti (h : gM n b p N tb lo hi wal Z) : gM n (b.sL 0 p (fun _ => v)) p N tb lo hi wal (Z.ti v) := by
  obtain ⟨h1, h2, h3, hs, he, hw⟩ := h
  exact ⟨h1, h2, h3, ⟨hs.1, hs.2.1, by rw [L_at]; rfl, hs.2.2.2⟩, he, hw⟩
theorem gM.ac (h : gM n b p N tb lo hi wal Z) : gM n (b.sL 1 p (vp_updL (b.L 1 p) j v)) p N tb lo hi wal (Z.ac j v) := by
  obtain ⟨h1, h2, h3, hs, he, hw⟩ := h
  refine ⟨h1, h2, h3, ⟨hs.1, hs.2.1, hs.2.2.1, fun i hi => ?_, hs.2.2.2.2⟩, he, hw⟩
  rw [L_at]
  exact up_L hs.2.2.2.1 i hi
theorem gM.us (h : gM n b p N tb lo hi wal Z) : gM n ((b.sP 5 p (upd (b.P 5 p) c 1)).sL 3 p (vp_updL (b.L 3 p) c v)) p N tb lo hi wal (Z.us c v) := by
  obtain ⟨h1, h2, h3, ⟨s1, s2, s3, s4, s5, s6⟩, he, hw⟩ := h
  refine ⟨h1, h2, h3, ⟨s1, s2, s3, s4, s5, fun i hi => ?_⟩, he, hw⟩
  show (((b.sP 5 p (upd (b.P 5 p) c 1))).P 5 p i = 0 ∨ (b.sP 5 p (upd (b.P 5 p) c 1)).P 5 p i = 1) ∧ va_up Z.1.2.2.2.2 c (some v) i = if (b.sP 5 p (upd (b.P 5 p) c 1)).P 5 p i = 0 then none else some ((b.sL 3 p (vp_updL (b.L 3 p) c v)).L 3 p i)
  rw [P_at, L_at]
  by_cases e : i = c
  · subst e
    rw [va_eq, upd_at, upL_at]
    exact ⟨Or.inr rfl, (if_neg (by decide)).symm⟩
  · rw [va_ne e, upd_ne e, upL_ne e]
    exact s6 i hi
theorem gM.ch (h : gM n b p N tb lo hi wal Z) : gM n ((b.sP 4 p (upd (b.P 4 p) c 1)).sL 2 p (vp_updL (b.L 2 p) c v)) p N tb lo hi wal (Z.ch c v) := by
  obtain ⟨h1, h2, h3, ⟨s1, s2, s3, s4, s5, s6⟩, he, hw⟩ := h
  refine ⟨h1, h2, h3, ⟨s1, s2, s3, s4, fun i hi => ?_, s6⟩, he, hw⟩
  show (((b.sP 4 p (upd (b.P 4 p) c 1))).P 4 p i = 0 ∨ (b.sP 4 p (upd (b.P 4 p) c 1)).P 4 p i = 1) ∧ va_up Z.1.2.2.2.1 c (some v) i = if (b.sP 4 p (upd (b.P 4 p) c 1)).P 4 p i = 0 then none else some ((b.sL 2 p (vp_updL (b.L 2 p) c v)).L 2 p i)
  rw [P_at, L_at]
  by_cases e : i = c
  · subst e
    rw [va_eq, upd_at, upL_at]
    exact ⟨Or.inr rfl, (if_neg (by decide)).symm⟩
  · rw [va_ne e, upd_ne e, upL_ne e]
    exact s5 i hi
theorem gM.wn {x : Nat} (h : gM n b p N tb lo hi wal Z) (hw : Z.ws.1 < 148) : gM n (((b.sI 543 (upd (b.I 543) Z.ws.1 (Int32.ofNat x))).sX 47 (b.I 505 47 + 1)).sI 544 (upd (b.I 544) Z.ws.1 (Int32.ofNat m))) p N tb lo hi wal (Z.wn x m) := by
  obtain ⟨h1, h2, h3, hs, ⟨⟨e1, e2, e3⟩, e4⟩, hl⟩ := h
  unfold mv_Z.wn
  rw [if_pos hw]
  refine ⟨h1, h2, h3, hs, ⟨⟨?_, hw, fun i hi => ?_⟩, e4⟩, hl⟩
  · show b.I 505 47 + 1 = Int32.ofNat (Z.ws.1 + 1)
    rw [e1, of_succ]
  · show upd (b.I 543) Z.ws.1 (Int32.ofNat x) i = Int32.ofNat (va_up Z.ws.2 Z.ws.1 (x, m) i).1 ∧ upd (b.I 544) Z.ws.1 (Int32.ofNat m) i = Int32.ofNat (va_up Z.ws.2 Z.ws.1 (x, m) i).2
    have hi' : i < Z.ws.1 + 1 := hi
    by_cases e : i = Z.ws.1
    · rw [e, va_eq, upd_at, upd_at]
      exact ⟨rfl, rfl⟩
    · rw [va_ne e, upd_ne e, upd_ne e]
      exact e3 i (by omega)
theorem gM.py {x y z : Nat} (h : gM n b p N tb lo hi wal Z) (hw : Z.ps.1 < 148) : gM n (((((b.sI 545 (upd (b.I 545) Z.ps.1 (Int32.ofNat x))).sI 546 (upd (b.I 546) Z.ps.1 (Int32.ofNat y))).sI 547 (upd (b.I 547) Z.ps.1 (Int32.ofNat z))).sX 48 (b.I 505 48 + 1)).sJ 548 (vp_updL (b.J 548) Z.ps.1 v)) p N tb lo hi wal (Z.py x y z v) := by
  obtain ⟨h1, h2, h3, hs, ⟨e4, ⟨e1, e2, e3⟩⟩, hl⟩ := h
  unfold mv_Z.py
  rw [if_pos hw]
  refine ⟨h1, h2, h3, hs, ⟨e4, ⟨?_, hw, fun i hi => ?_⟩⟩, hl⟩
  · show b.I 505 48 + 1 = Int32.ofNat (Z.ps.1 + 1)
    rw [e1, of_succ]
  · show upd (b.I 545) Z.ps.1 (Int32.ofNat x) i = Int32.ofNat (va_up Z.ps.2 Z.ps.1 (x, y, z, v) i).1 ∧ upd (b.I 546) Z.ps.1 (Int32.ofNat y) i = Int32.ofNat (va_up Z.ps.2 Z.ps.1 (x, y, z, v) i).2.1 ∧ upd (b.I 547) Z.ps.1 (Int32.ofNat z) i = Int32.ofNat (va_up Z.ps.2 Z.ps.1 (x, y, z, v) i).2.2.1 ∧ vp_updL (b.J 548) Z.ps.1 v i = (va_up Z.ps.2 Z.ps.1 (x, y, z, v) i).2.2.2
    have hi' : i < Z.ps.1 + 1 := hi
    by_cases e : i = Z.ps.1
    · rw [e, va_eq, upd_at, upd_at, upd_at, upL_at]
      exact ⟨rfl, rfl, rfl, rfl⟩
    · rw [va_ne e, upd_ne e, upd_ne e, upd_ne e, upL_ne e]
      exact e3 i (by omega)
theorem gM.tk (h : gM n b p N tb lo hi wal Z) (hw : wal = true) : gM n (b.sJ 549 (vp_updL (b.J 549) j (b.J 549 j + v))) p N tb lo hi wal (Z.tk j (Z.lf j - v)) := by
  obtain ⟨h1, h2, h3, hs, he, hl⟩ := h
  refine ⟨h1, h2, h3, hs, he, fun _ i hi => ?_⟩
  show b.J 550 i - vp_updL (b.J 549) j (b.J 549 j + v) i = va_up Z.2.2.2 j (Z.lf j - v) i
  by_cases e : i = j
  · subst e
    rw [va_eq, upL_at, ← hl hw i hi]
    rw [Int64.sub_eq_add_neg, Int64.sub_eq_add_neg, Int64.sub_eq_add_neg, Int64.neg_add, Int64.sub_eq_add_neg, Int64.add_assoc]
  · rw [va_ne e, upL_ne e]
    exact hl hw i hi
theorem g_warn {x : Nat} (hn : 575 ≤ n) (h : gM n b p N tb lo hi wal Z) (hw : Z.ws.1 < 148) (K : ∀ b', gMf p b b' → gM n b' p N tb lo hi wal (Z.wn x m) → b'.I 505 58 = b.I 505 58 → Q (.inl none) (n, sl, hd b' f0)) : mi_W d 182 0 (mi_en 3 [.ref 505, .int (Int32.ofNat x), .int (Int32.ofNat m)]) [] (n, sl, hd b f0) Q := by
  have hix : mi_ix (b.I 505 47) 2000 Z.ws.1 := by rw [h.2.2.2.2.1.1.1]; exact ix_of (by omega) (by omega)
  refine b_182_0 _ _ _ _ _ _ _ _ _ (by first | (exact hd_9) | assumption) (by omega) (by exact mL_get (by decide)) (by first | (exact hd_9) | assumption) (by omega) (by exact mL_get (by decide)) (by first | (exact hd_I (by omega) rfl) | assumption) (by omega) (by first | assumption | (exact ix_of (by omega) (by omega)) | (exact ⟨by decide, rfl, by decide⟩)) (by first | (exact (congrFun (gw_I (by omega) rfl) _).trans (hd_9)) | assumption) (by omega) (by exact mL_get (by decide)) (by first | (exact (congrFun (gw_I (by omega) rfl) _).trans (hd_9)) | assumption) (by omega) (by exact mL_get (by decide)) (by first | (exact (congrFun (gw_I (by omega) rfl) _).trans (hd_9)) | assumption) (by omega) (by rw [mL_len]; decide) (by first | (exact (congrFun (hw_2 (gw_I (by omega) rfl) (gw_X (by decide))) _).trans (hd_I (by omega) rfl)) | assumption) (by omega) (by first | assumption | (exact ix_of (by omega) (by omega)) | (exact ⟨by decide, rfl, by decide⟩)) ?_
  refine hw_Q (hw_2 (hw_2 (gw_I (by omega) rfl) (gw_X (by decide))) (gw_I (by omega) rfl)) ?_
  exact K _ (((gMf.re.sI (q := 543) (by decide) (by decide)).sX (k := 47) (Or.inr (Or.inl rfl))).sI (q := 544) (by decide) (by decide)) (h.wn hw) rfl
theorem g_pay {x y z : Nat} (hn : 575 ≤ n) (h : gM n b p N tb lo hi wal Z) (hw : Z.ps.1 < 148) (K : ∀ b', gMf p b b' → gM n b' p N tb lo hi wal (Z.py x y z v) → b'.I 505 58 = b.I 505 58 → Q (.inl none) (n, sl, hd b' f0)) : mi_W d 176 0 (mi_en 6 [.ref 505, .int (Int32.ofNat x), .int (Int32.ofNat y), .int (Int32.ofNat z), .long v]) [] (n, sl, hd b f0) Q := by
  have hix : mi_ix (b.I 505 48) 2000 Z.ps.1 := by rw [h.2.2.2.2.1.2.1]; exact ix_of (by omega) (by omega)
  refine b_176_0 _ _ _ _ _ _ _ _ _ _ _ _ _ _ _ (by first | (exact hd_9) | assumption) (by omega) (by exact mL_get (by decide)) (by first | (exact hd_9) | assumption) (by omega) (by exact mL_get (by decide)) (by first | (exact hd_I (by omega) rfl) | assumption) (by omega) (by first | assumption | (exact ix_of (by omega) (by omega)) | (exact ⟨by decide, rfl, by decide⟩)) (by first | (exact (congrFun (gw_I (by omega) rfl) _).trans (hd_9)) | assumption) (by omega) (by exact mL_get (by decide)) (by first | (exact (congrFun (gw_I (by omega) rfl) _).trans (hd_9)) | assumption) (by omega) (by exact mL_get (by decide)) (by first | (exact (congrFun (gw_I (by omega) rfl) _).trans (hd_I (by omega) rfl)) | assumption) (by omega) (by first | assumption | (exact ix_of (by omega) (by omega)) | (exact ⟨by decide, rfl, by decide⟩)) (by first | (exact (congrFun (hw_2 (gw_I (by omega) rfl) (gw_I (by omega) rfl)) _).trans (hd_9)) | assumption) (by omega) (by exact mL_get (by decide)) (by first | (exact (congrFun (hw_2 (gw_I (by omega) rfl) (gw_I (by omega) rfl)) _).trans (hd_9)) | assumption) (by omega) (by exact mL_get (by decide)) (by first | (exact (congrFun (hw_2 (gw_I (by omega) rfl) (gw_I (by omega) rfl)) _).trans (hd_I (by omega) rfl)) | assumption) (by omega) (by first | assumption | (exact ix_of (by omega) (by omega)) | (exact ⟨by decide, rfl, by decide⟩)) (by first | (exact (congrFun (hw_2 (hw_2 (gw_I (by omega) rfl) (gw_I (by omega) rfl)) (gw_I (by omega) rfl)) _).trans (hd_9)) | assumption) (by omega) (by exact mL_get (by decide)) (by first | (exact (congrFun (hw_2 (hw_2 (gw_I (by omega) rfl) (gw_I (by omega) rfl)) (gw_I (by omega) rfl)) _).trans (hd_9)) | assumption) (by omega) (by exact mL_get (by decide)) (by first | (exact (congrFun (hw_2 (hw_2 (gw_I (by omega) rfl) (gw_I (by omega) rfl)) (gw_I (by omega) rfl)) _).trans (hd_9)) | assumption) (by omega) (by rw [mL_len]; decide) (by first | (exact (congrFun (hw_2 (hw_2 (hw_2 (gw_I (by omega) rfl) (gw_I (by omega) rfl)) (gw_I (by omega) rfl)) (gw_X (by decide))) _).trans (hd_J (by omega) rfl)) | (exact (congrFun (hw_2 (hw_2 (hw_2 (gw_I (by omega) rfl) (gw_I (by omega) rfl)) (gw_I (by omega) rfl)) (gw_X (by decide))) _).trans (hd_L1 (by assumption))) | (exact (congrFun (hw_2 (hw_2 (hw_2 (gw_I (by omega) rfl) (gw_I (by omega) rfl)) (gw_I (by omega) rfl)) (gw_X (by decide))) _).trans (hd_L2 (by assumption))) | (exact (congrFun (hw_2 (hw_2 (hw_2 (gw_I (by omega) rfl) (gw_I (by omega) rfl)) (gw_I (by omega) rfl)) (gw_X (by decide))) _).trans (hd_L3 (by assumption))) | assumption) (by omega) (by first | assumption | (exact ix_of (by omega) (by omega)) | (exact ⟨by decide, rfl, by decide⟩)) ?_
  refine hw_Q (hw_2 (hw_2 (hw_2 (hw_2 (gw_I (by omega) rfl) (gw_I (by omega) rfl)) (gw_I (by omega) rfl)) (gw_X (by decide))) ((by first | exact gw_J (by omega) rfl | exact gw_L1 (by assumption) | exact gw_L2 (by assumption) | exact gw_L3 (by assumption)))) ?_
  exact K _ (((((gMf.re.sI (q := 545) (by decide) (by decide)).sI (q := 546) (by decide) (by decide)).sI (q := 547) (by decide) (by decide)).sX (k := 48) (Or.inr (Or.inr (Or.inl rfl)))).sJ (q := 548) (by decide) (by decide)) (h.py hw) rfl
end
