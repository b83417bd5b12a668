/-! the second object: pieces of a reduction -/
/-- what comes of one reduction -/
def gKs (n sl : Nat) (f0 : Nat → mi_C) (Q : (Option Value ⊕ Nat) → mi_H → Prop) (d : Nat) (b : mg_A) (p N : Nat) (tb : Nat → ms_N) (lo hi : Int64) (wal : Bool) (Z : mv_Z) (s : Except Nat (Option mv_Z)) : Prop := (s = .ok none → ∀ b', gMf p b b' → gM n b' p N tb lo hi wal Z → b'.I 505 58 = b.I 505 58 → Q (.inl (some (.int 0))) (n, sl, hd b' f0)) ∧ (∀ Z', s = .ok (some Z') → ∀ b' o2 o3 o4 o5 o6 o7 o8, gMf p b b' → gM n b' p N tb lo hi wal Z' → b'.I 505 58 = 1 → mi_W d 175 0 [some (.ref 505), o2, o3, o4, o5, o6, o7, o8] [] (n, sl, hd b' f0) Q) ∧ (∀ x, s = .error x → ∀ b', gMf p b b' → Q (.inl (some (.int (Int32.ofNat x)))) (n, sl, hd b' f0))
section
variable {d e n sl N : Nat} {b b0 b1 b2 : mg_A} {f0 : Nat → mi_C} {Q : (Option Value ⊕ Nat) → mi_H → Prop} {p q i j c k r m A B D y : Nat} {tb : Nat → ms_N} {lo hi v w x : Int64} {Z : mv_Z} {wal : Bool} {l2 : Int32} {o2 o3 o4 o5 o6 o7 o8 : Option Value}
theorem mv_wn_1 (h : Z.ws.1 < 148) : Z.wn i j = (Z.1, (Z.ws.1 + 1, va_up Z.ws.2 Z.ws.1 (i, j)), Z.2.2) := if_pos h
theorem mv_wn_0 (h : ¬ Z.ws.1 < 148) : Z.wn i j = Z := if_neg h
theorem mv_py_1 (h : Z.ps.1 < 148) : Z.py i j c v = (Z.1, Z.2.1, (Z.ps.1 + 1, va_up Z.ps.2 Z.ps.1 (i, j, c, v)), Z.2.2.2) := if_pos h
theorem mv_py_0 (h : ¬ Z.ps.1 < 148) : Z.py i j c v = Z := if_neg h
theorem mv_wn_go : (Z.wn i j).go k = (Z.go k).wn i j := by
  by_cases h : Z.ws.1 < 148
  · rw [mv_wn_1 h, mv_wn_1 (Z := Z.go k) h]
    rfl
  · rw [mv_wn_0 h, mv_wn_0 (Z := Z.go k) h]
theorem mv_wn_ac : (Z.wn i j).ac k v = (Z.ac k v).wn i j := by
  by_cases h : Z.ws.1 < 148
  · rw [mv_wn_1 h, mv_wn_1 (Z := Z.ac k v) h]
    rfl
  · rw [mv_wn_0 h, mv_wn_0 (Z := Z.ac k v) h]
theorem mv_py_go : (Z.py i j c v).go k = (Z.go k).py i j c v := by
  by_cases h : Z.ps.1 < 148
  · rw [mv_py_1 h, mv_py_1 (Z := Z.go k) h]
    rfl
  · rw [mv_py_0 h, mv_py_0 (Z := Z.go k) h]
theorem mv_sub (v w : Int64) : v + -w = v - w := (Int64.sub_eq_add_neg v w).symm
/-- pay, as the second object does it -/
def mv_q1 (A D m : Nat) (Z : mv_Z) (x v : Int64) : mv_Z := (if x < v then Z.wn 3 m else Z).ac (A * 4 + D) (Z.S.ac (A * 4 + D) - x)
theorem mv_q1_p1 : mv_p1 A D y m Z v = (mv_q1 A D m Z (mv_min v (Z.S.ac (A * 4 + D))) v).go y := by
  unfold mv_p1 mv_q1
  dsimp only
  rw [mv_sub]
  split
  · rw [mv_wn_ac, mv_wn_go]
    rfl
  · rfl
theorem mv_pay_1 (hv : ¬ v ≤ 0) (hx : mv_min v (Z.S.ac (A * 4 + D)) = x) : mv_pay 1 A B D y m Z v = ((if x = 0 then mv_q1 A D m Z x v else (mv_q1 A D m Z x v).py A B D x).go y, true) := by
  unfold mv_pay
  rw [if_neg hv, mv_q1_p1, hx]
  unfold mv_p2
  rw [if_pos rfl]
  split
  · rfl
  · rw [mv_py_go]
theorem mv_pay_2 (hv : ¬ v ≤ 0) (hx : mv_min v (Z.S.ac (A * 4 + D)) = x) : mv_pay 2 A B D y m Z v = (((mv_q1 A D m Z x v).ac (B * 4 + D) ((mv_q1 A D m Z x v).S.ac (B * 4 + D) + x)).go y, mv_lm ((mv_q1 A D m Z x v).S.ac (B * 4 + D) + x)) := by
  unfold mv_pay
  rw [if_neg hv, mv_q1_p1, hx]
  unfold mv_p2
  rw [if_neg (by decide)]
  rfl
theorem mv_pay_0 (hv : v ≤ 0) : mv_pay k A B D y m Z v = ((Z.wn 2 m).go y, true) := by
  unfold mv_pay
  rw [if_pos hv, mv_wn_go]
theorem g_598 (hn : 575 ≤ n) (K : ∀ o2, mi_W d 175 0 [some (.ref 505), o2, o3, o4, o5, o6, o7, o8] [] (n, sl, hd (b.sX 58 1) f0) Q) : mi_W d 175 598 [some (.ref 505), some (.int l2), o3, o4, o5, o6, o7, o8] [] (n, sl, hd b f0) Q := by
  refine b_175_598 _ _ _ (by first | (exact hd_9) | assumption) (by omega) (by rw [mL_len]; decide) (by first | assumption | (exact mL_get (by decide)) | (rw [mL_len]; decide) | (simp only [mL_set]; exact mL_get (by decide)) | (simp only [mL_set, mL_len]; decide) | (exact va_eq) | (exact (va_ne (by omega)).trans (by assumption)) | (exact (va_ne (by omega)).trans va_eq) | (exact (va_ne (by omega)).trans ((va_ne (by omega)).trans (by assumption))) | (exact (va_ne (by omega)).trans ((va_ne (by omega)).trans ((va_ne (by omega)).trans (by assumption)))) | rfl | (exact Or.inl rfl) | (exact Or.inr rfl) | omega | (exact Nat.le_of_ble_eq_true rfl) | decide | (exact ⟨by decide, rfl, by decide⟩)) ?_
  refine hw_W (gw_X (by decide)) ?_
  exact K _
theorem g_350 (hn : 575 ≤ n) (h : gM n b p N tb lo hi wal Z) (hm : m < 800) (hy8 : y ≤ 800) (hy : b.I 516 m = Int32.ofNat y) (K : ∀ b' o2, gMf p b b' → gM n b' p N tb lo hi wal (Z.go y) → b'.I 505 58 = 1 → mi_W d 175 0 [some (.ref 505), o2, some (.long v), none, o4, o5, o6, o7] [] (n, sl, hd b' f0) Q) : mi_W d 175 350 [some (.ref 505), some (.int (Int32.ofNat m)), some (.long v), none, o4, o5, o6, o7] [] (n, sl, hd b f0) Q := by
  obtain ⟨⟨hps, hpn⟩, -, -, ⟨hpo, -⟩, -⟩ := id h
  have hix := ix_of (w := m) (m := 800) (by omega) (by omega)
  refine b_175_350 _ _ _ _ _ _ (by first | (exact hd_9) | assumption) (by omega) (by exact (mL_get (by decide)).trans (congrArg some (by assumption))) (by first | (exact hd_9) | assumption) (by omega) (by exact mL_get (by decide)) (by first | (exact hd_I (by omega) rfl) | assumption) (Or.inl (by omega)) (by first | assumption | (exact ix_of (by omega) (by omega)) | (exact ⟨by decide, rfl, by decide⟩)) (by first | (exact hd_8 (by assumption)) | assumption) (by omega) (Nat.le_of_ble_eq_true rfl) ?_
  refine hw_W (gw_at (by assumption)) ?_
  rw [hy]
  exact g_598 hn (fun o2 => K _ o2 (gMf.re.sP.sX (k := 58) (Or.inr (Or.inr (Or.inr rfl)))) (h.go hy8).x58 rfl)
theorem g_585 {l3 : Int32} (hn : 575 ≤ n) (h : gM n b p N tb lo hi wal Z) (hm : m < 800) (hy8 : y ≤ 800) (hy : b.I 516 m = Int32.ofNat y) (K : ∀ b' o2, gMf p b b' → gM n b' p N tb lo hi wal (Z.go y) → b'.I 505 58 = 1 → mi_W d 175 0 [some (.ref 505), o2, some (.int l3), o4, o5, o6, o7, o8] [] (n, sl, hd b' f0) Q) : mi_W d 175 585 [some (.ref 505), some (.int (Int32.ofNat m)), some (.int l3), o4, o5, o6, o7, o8] [] (n, sl, hd b f0) Q := by
  obtain ⟨⟨hps, hpn⟩, -, -, ⟨hpo, -⟩, -⟩ := id h
  have hix := ix_of (w := m) (m := 800) (by omega) (by omega)
  refine b_175_585 _ _ _ _ _ _ (by first | (exact hd_9) | assumption) (by omega) (by exact (mL_get (by decide)).trans (congrArg some (by assumption))) (by first | (exact hd_9) | assumption) (by omega) (by exact mL_get (by decide)) (by first | (exact hd_I (by omega) rfl) | assumption) (Or.inl (by omega)) (by first | assumption | (exact ix_of (by omega) (by omega)) | (exact ⟨by decide, rfl, by decide⟩)) (by first | (exact hd_8 (by assumption)) | assumption) (by omega) (Nat.le_of_ble_eq_true rfl) ?_
  refine hw_W (gw_at (by assumption)) ?_
  rw [hy]
  exact g_598 hn (fun o2 => K _ o2 (gMf.re.sP.sX (k := 58) (Or.inr (Or.inr (Or.inr rfl)))) (h.go hy8).x58 rfl)
theorem g_508 (hn : 575 ≤ n) (h : gM n b p N tb lo hi wal Z) (hm : m < 800) (hA : A < 8) (hy8 : y ≤ 800) (ha : b.I 510 m = Int32.ofNat A) (hy : b.I 516 m = Int32.ofNat y) (K : ∀ b' o2, gMf p b b' → gM n b' p N tb lo hi wal ((Z.us A v).go y) → b'.I 505 58 = 1 → mi_W d 175 0 [some (.ref 505), o2, some (.long v), none, o4, o5, o6, o7] [] (n, sl, hd b' f0) Q) : mi_W d 175 508 [some (.ref 505), some (.int (Int32.ofNat m)), some (.long v), none, o4, o5, o6, o7] [] (n, sl, hd b f0) Q := by
  obtain ⟨⟨hps, hpn⟩, -, -, ⟨hpo, -⟩, -⟩ := id h
  have hix := ix_of (w := m) (m := 800) (by omega) (by omega)
  have hi4 : mi_ix (b.I 510 m) 8 A := by
    rw [ha]
    exact ix_of (by omega) (by omega)
  refine b_175_508 _ _ _ _ _ _ _ _ _ _ _ _ _ _ _ _ _ _ (by first | (exact hd_9) | assumption) (by omega) (by exact (mL_get (by decide)).trans (congrArg some (by assumption))) (by first | (exact hd_8 (by assumption)) | assumption) (by omega) (by exact rfl) (by first | (exact hd_9) | assumption) (by omega) (by exact mL_get (by decide)) (by first | (exact hd_I (by omega) rfl) | assumption) (Or.inl (by omega)) (by first | assumption | (exact ix_of (by omega) (by omega)) | (exact ⟨by decide, rfl, by decide⟩)) (by first | (exact hd_P4 (by assumption)) | (exact hd_P5 (by assumption)) | assumption) (by omega) (by first | assumption | (exact ix_of (by omega) (by omega)) | (exact ⟨by decide, rfl, by decide⟩)) (by first | (exact (congrFun ((by first | exact gw_P4 (by assumption) | exact gw_P5 (by assumption))) _).trans (hd_9)) | assumption) (by omega) (by exact (mL_get (by decide)).trans (congrArg some (by assumption))) (by first | (exact (congrFun ((by first | exact gw_P4 (by assumption) | exact gw_P5 (by assumption))) _).trans (hd_8 (by assumption))) | assumption) (by omega) (by exact rfl) (by first | (exact (congrFun ((by first | exact gw_P4 (by assumption) | exact gw_P5 (by assumption))) _).trans (hd_9)) | assumption) (by omega) (by exact mL_get (by decide)) (by first | (exact (congrFun ((by first | exact gw_P4 (by assumption) | exact gw_P5 (by assumption))) _).trans (hd_I (by omega) rfl)) | assumption) (Or.inl (by omega)) (by first | assumption | (exact ix_of (by omega) (by omega)) | (exact ⟨by decide, rfl, by decide⟩)) (by first | (exact (congrFun ((by first | exact gw_P4 (by assumption) | exact gw_P5 (by assumption))) _).trans (hd_J (by omega) rfl)) | (exact (congrFun ((by first | exact gw_P4 (by assumption) | exact gw_P5 (by assumption))) _).trans (hd_L1 (by assumption))) | (exact (congrFun ((by first | exact gw_P4 (by assumption) | exact gw_P5 (by assumption))) _).trans (hd_L2 (by assumption))) | (exact (congrFun ((by first | exact gw_P4 (by assumption) | exact gw_P5 (by assumption))) _).trans (hd_L3 (by assumption))) | assumption) (by omega) (by first | assumption | (exact ix_of (by omega) (by omega)) | (exact ⟨by decide, rfl, by decide⟩)) (by first | (exact (congrFun (hw_2 ((by first | exact gw_P4 (by assumption) | exact gw_P5 (by assumption))) ((by first | exact gw_J (by omega) rfl | exact gw_L1 (by assumption) | exact gw_L2 (by assumption) | exact gw_L3 (by assumption)))) _).trans (hd_9)) | assumption) (by omega) (by exact (mL_get (by decide)).trans (congrArg some (by assumption))) (by first | (exact (congrFun (hw_2 ((by first | exact gw_P4 (by assumption) | exact gw_P5 (by assumption))) ((by first | exact gw_J (by omega) rfl | exact gw_L1 (by assumption) | exact gw_L2 (by assumption) | exact gw_L3 (by assumption)))) _).trans (hd_9)) | assumption) (by omega) (by exact mL_get (by decide)) (by first | (exact (congrFun (hw_2 ((by first | exact gw_P4 (by assumption) | exact gw_P5 (by assumption))) ((by first | exact gw_J (by omega) rfl | exact gw_L1 (by assumption) | exact gw_L2 (by assumption) | exact gw_L3 (by assumption)))) _).trans (hd_I (by omega) rfl)) | assumption) (Or.inl (by omega)) (by first | assumption | (exact ix_of (by omega) (by omega)) | (exact ⟨by decide, rfl, by decide⟩)) (by first | (exact (congrFun (hw_2 ((by first | exact gw_P4 (by assumption) | exact gw_P5 (by assumption))) ((by first | exact gw_J (by omega) rfl | exact gw_L1 (by assumption) | exact gw_L2 (by assumption) | exact gw_L3 (by assumption)))) _).trans (hd_8 (by assumption))) | assumption) (by omega) (Nat.le_of_ble_eq_true rfl) ?_
  refine hw_W (hw_2 (hw_2 ((by first | exact gw_P4 (by assumption) | exact gw_P5 (by assumption))) ((by first | exact gw_J (by omega) rfl | exact gw_L1 (by assumption) | exact gw_L2 (by assumption) | exact gw_L3 (by assumption)))) (gw_at (by assumption))) ?_
  rw [show (vp_nar .boolean 1) = 1 from rfl]
  rw [show ((b.sP 5 p (upd (b.P 5 p) A 1)).sL 3 p (vp_updL ((b.sP 5 p (upd (b.P 5 p) A 1)).L 3 p) A v)).I 516 m = Int32.ofNat y from hy]
  exact g_598 hn (fun o2 => K _ o2 (gMf.re.sP.sL.sP.sX (k := 58) (Or.inr (Or.inr (Or.inr rfl)))) (gM.go (h.us (c := A) (v := v)) hy8).x58 rfl)
end
