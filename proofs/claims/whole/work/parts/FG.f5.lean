/-! the second object: what is told is kept -/
def gKf (b b1 : mg_A) : Prop := gAq b b1 ∧ (∀ q, 543 ≤ q → q ≤ 547 → b1.I q = b.I q) ∧ b1.J 548 = b.J 548 ∧ b1.J 550 = b.J 550 ∧ b1.I 505 = b.I 505 ∧ b1.P = b.P
section
variable {d n sl : Nat} {b b0 b1 b2 b' : mg_A} {f0 : Nat → mi_C} {Q : (Option Value ⊕ Nat) → mi_H → Prop} {q k nw np : Nat} {x l4 : Int32} {u v : Int64} {Z : mv_Z} {o5 : Option Value}
theorem gKf.re : gKf b b := ⟨gAq.re, fun _ _ _ => rfl, rfl, rfl, rfl, rfl⟩
theorem gKf.trans (h : gKf b b1) (h' : gKf b1 b2) : gKf b b2 := ⟨h.1.trans h'.1, fun q h1 h2 => (h'.2.1 q h1 h2).trans (h.2.1 q h1 h2), h'.2.2.1.trans h.2.2.1, h'.2.2.2.1.trans h.2.2.2.1, h'.2.2.2.2.1.trans h.2.2.2.2.1, h'.2.2.2.2.2.trans h.2.2.2.2.2⟩
theorem gKf.sI {g : Nat → Int32} (hq : 556 ≤ q ∧ q ≤ 560) : gKf b (b.sI q g) := ⟨gAq.sI hq, fun q' h1 h2 => va_ne (by omega), rfl, rfl, va_ne (f := b.I) (by omega), rfl⟩
theorem gKf.sJ {g : Nat → Int64} : gKf b (b.sJ 561 g) := ⟨gAq.sJ (Or.inr rfl), fun _ _ _ => rfl, rfl, rfl, rfl, rfl⟩
theorem g_kw (hn : 575 ≤ n) (hw : b.I 505 47 = Int32.ofNat nw) (hw8 : nw ≤ 148) (K : ∀ b1 l5, gKf b b1 → (∀ i, i < nw → b1.I 556 i = b.I 543 i ∧ b1.I 557 i = b.I 544 i) → mi_W d 172 170 [some (.ref 505), some (.long u), none, some (.long v), none, some (.int l4), some (.int l5)] [] (n, sl, hd b1 f0) Q) : ∀ (t k : Nat) (b1 : mg_A), k + t = nw → gKf b b1 → (∀ i, i < k → b1.I 556 i = b.I 543 i ∧ b1.I 557 i = b.I 544 i) → mi_W d 172 127 [some (.ref 505), some (.long u), none, some (.long v), none, some (.int l4), some (.int (Int32.ofNat k))] [] (n, sl, hd b1 f0) Q := by
  intro t
  induction t with
  | zero =>
    intro k b1 hk f1 h1
    have e47 : b1.I 505 47 = Int32.ofNat nw := by rw [f1.2.2.2.2.1]; exact hw
    have hi := i_le e47 (show Int32.ofNat k = Int32.ofNat k from rfl) (by omega) (by omega)
    refine b_172_127 _ _ _ (by first | (exact hd_9) | assumption) (by omega) (by exact mL_get (by decide)) ?_ ?_
    · intro z127
      exact K b1 _ f1 (fun i hi => h1 i (by omega))
    · intro z127
      exact absurd (hi.mpr (by omega)) z127
  | succ t ih =>
    intro k b1 hk f1 h1
    have e47 : b1.I 505 47 = Int32.ofNat nw := by rw [f1.2.2.2.2.1]; exact hw
    have hi := i_le e47 (show Int32.ofNat k = Int32.ofNat k from rfl) (by omega) (by omega)
    have hix := ix_of (w := k) (m := 2000) (by omega) (by omega)
    have e3 := f1.2.1 543 (by decide) (by decide)
    have e4 := f1.2.1 544 (by decide) (by decide)
    refine b_172_127 _ _ _ (by first | (exact hd_9) | assumption) (by omega) (by exact mL_get (by decide)) ?_ ?_
    · intro z127
      exact absurd (hi.mp z127) (by omega)
    · intro z127
      refine b_172_136 _ _ _ _ _ _ _ _ _ _ _ _ _ _ _ (by first | (exact hd_9) | assumption) (by omega) (by exact mL_get (by decide)) (by first | (exact hd_9) | assumption) (by omega) (by exact mL_get (by decide)) (by first | (exact hd_I (by omega) rfl) | assumption) (Or.inl (by omega)) (by first | assumption | (exact ix_of (by omega) (by omega)) | (exact ⟨by decide, rfl, by decide⟩)) (by first | (exact hd_I (by omega) rfl) | assumption) (by omega) (by first | assumption | (exact ix_of (by omega) (by omega)) | (exact ⟨by decide, rfl, by decide⟩)) (by first | (exact (congrFun (gw_I (by omega) rfl) _).trans (hd_9)) | assumption) (by omega) (by exact mL_get (by decide)) (by first | (exact (congrFun (gw_I (by omega) rfl) _).trans (hd_9)) | assumption) (by omega) (by exact mL_get (by decide)) (by first | (exact (congrFun (gw_I (by omega) rfl) _).trans (hd_I (by omega) rfl)) | assumption) (Or.inl (by omega)) (by first | assumption | (exact ix_of (by omega) (by omega)) | (exact ⟨by decide, rfl, by decide⟩)) (by first | (exact (congrFun (gw_I (by omega) rfl) _).trans (hd_I (by omega) rfl)) | assumption) (by omega) (by first | assumption | (exact ix_of (by omega) (by omega)) | (exact ⟨by decide, rfl, by decide⟩)) ?_
      refine hw_W (hw_2 (gw_I (by omega) rfl) (gw_I (by omega) rfl)) ?_
      rw [of_succ]
      refine ih (k + 1) _ (by omega) ((f1.trans (gKf.sI (q := 556) (by omega))).trans (gKf.sI (q := 557) (by omega))) (fun i hi => ?_)
      show upd (b1.I 556) k (b1.I 543 k) i = b.I 543 i ∧ upd (b1.I 557) k (b1.I 544 k) i = b.I 544 i
      rw [e3, e4]
      by_cases e : i = k
      · rw [e, upd_at, upd_at]
        exact ⟨rfl, rfl⟩
      · rw [upd_ne e, upd_ne e]
        exact h1 i (by omega)
theorem g_kp (hn : 575 ≤ n) (hw : b.I 505 48 = Int32.ofNat np) (hw8 : np ≤ 148) (K : ∀ b1, gKf b b1 → (b1.I 556 = b.I 556 ∧ b1.I 557 = b.I 557) → (∀ i, i < np → b1.I 558 i = b.I 545 i ∧ b1.I 559 i = b.I 546 i ∧ b1.I 560 i = b.I 547 i ∧ b1.J 561 i = b.J 548 i) → Q (.inl (some (.int l4))) (n, sl, hd b1 f0)) : ∀ (t k : Nat) (b1 : mg_A), k + t = np → gKf b b1 → (b1.I 556 = b.I 556 ∧ b1.I 557 = b.I 557) → (∀ i, i < k → b1.I 558 i = b.I 545 i ∧ b1.I 559 i = b.I 546 i ∧ b1.I 560 i = b.I 547 i ∧ b1.J 561 i = b.J 548 i) → mi_W d 172 173 [some (.ref 505), some (.long u), none, some (.long v), none, some (.int l4), some (.int (Int32.ofNat k))] [] (n, sl, hd b1 f0) Q := by
  intro t
  induction t with
  | zero =>
    intro k b1 hk f1 h0 h1
    have e48 : b1.I 505 48 = Int32.ofNat np := by rw [f1.2.2.2.2.1]; exact hw
    have hi := i_le e48 (show Int32.ofNat k = Int32.ofNat k from rfl) (by omega) (by omega)
    refine b_172_173 _ _ _ (by first | (exact hd_9) | assumption) (by omega) (by exact mL_get (by decide)) ?_ ?_
    · intro z173
      refine b_172_244 _ _ _ ?_
      exact K b1 f1 h0 (fun i hi => h1 i (by omega))
    · intro z173
      exact absurd (hi.mpr (by omega)) z173
  | succ t ih =>
    intro k b1 hk f1 h0 h1
    have e48 : b1.I 505 48 = Int32.ofNat np := by rw [f1.2.2.2.2.1]; exact hw
    have hi := i_le e48 (show Int32.ofNat k = Int32.ofNat k from rfl) (by omega) (by omega)
    have hix := ix_of (w := k) (m := 2000) (by omega) (by omega)
    have e5 := f1.2.1 545 (by decide) (by decide)
    have e6 := f1.2.1 546 (by decide) (by decide)
    have e7 := f1.2.1 547 (by decide) (by decide)
    have e8 := f1.2.2.1
    refine b_172_173 _ _ _ (by first | (exact hd_9) | assumption) (by omega) (by exact mL_get (by decide)) ?_ ?_
    · intro z173
      exact absurd (hi.mp z173) (by omega)
    · intro z173
      refine b_172_182 _ _ _ _ _ _ _ _ _ _ _ _ _ _ _ _ _ _ _ _ _ _ _ _ _ _ _ (by first | (exact hd_9) | assumption) (by omega) (by exact mL_get (by decide)) (by first | (exact hd_9) | assumption) (by omega) (by exact mL_get (by decide)) (by first | (exact hd_I (by omega) rfl) | assumption) (Or.inl (by omega)) (by first | assumption | (exact ix_of (by omega) (by omega)) | (exact ⟨by decide, rfl, by decide⟩)) (by first | (exact hd_I (by omega) rfl) | assumption) (by omega) (by first | assumption | (exact ix_of (by omega) (by omega)) | (exact ⟨by decide, rfl, by decide⟩)) (by first | (exact (congrFun (gw_I (by omega) rfl) _).trans (hd_9)) | assumption) (by omega) (by exact mL_get (by decide)) (by first | (exact (congrFun (gw_I (by omega) rfl) _).trans (hd_9)) | assumption) (by omega) (by exact mL_get (by decide)) (by first | (exact (congrFun (gw_I (by omega) rfl) _).trans (hd_I (by omega) rfl)) | assumption) (Or.inl (by omega)) (by first | assumption | (exact ix_of (by omega) (by omega)) | (exact ⟨by decide, rfl, by decide⟩)) (by first | (exact (congrFun (gw_I (by omega) rfl) _).trans (hd_I (by omega) rfl)) | assumption) (by omega) (by first | assumption | (exact ix_of (by omega) (by omega)) | (exact ⟨by decide, rfl, by decide⟩)) (by first | (exact (congrFun (hw_2 (gw_I (by omega) rfl) (gw_I (by omega) rfl)) _).trans (hd_9)) | assumption) (by omega) (by exact mL_get (by decide)) (by first | (exact (congrFun (hw_2 (gw_I (by omega) rfl) (gw_I (by omega) rfl)) _).trans (hd_9)) | assumption) (by omega) (by exact mL_get (by decide)) (by first | (exact (congrFun (hw_2 (gw_I (by omega) rfl) (gw_I (by omega) rfl)) _).trans (hd_I (by omega) rfl)) | assumption) (Or.inl (by omega)) (by first | assumption | (exact ix_of (by omega) (by omega)) | (exact ⟨by decide, rfl, by decide⟩)) (by first | (exact (congrFun (hw_2 (gw_I (by omega) rfl) (gw_I (by omega) rfl)) _).trans (hd_I (by omega) rfl)) | assumption) (by omega) (by first | assumption | (exact ix_of (by omega) (by omega)) | (exact ⟨by decide, rfl, by decide⟩)) (by first | (exact (congrFun (hw_2 (hw_2 (gw_I (by omega) rfl) (gw_I (by omega) rfl)) (gw_I (by omega) rfl)) _).trans (hd_9)) | assumption) (by omega) (by exact mL_get (by decide)) (by first | (exact (congrFun (hw_2 (hw_2 (gw_I (by omega) rfl) (gw_I (by omega) rfl)) (gw_I (by omega) rfl)) _).trans (hd_9)) | assumption) (by omega) (by exact mL_get (by decide)) (by first | (exact (congrFun (hw_2 (hw_2 (gw_I (by omega) rfl) (gw_I (by omega) rfl)) (gw_I (by omega) rfl)) _).trans (hd_J (by omega) rfl)) | (exact (congrFun (hw_2 (hw_2 (gw_I (by omega) rfl) (gw_I (by omega) rfl)) (gw_I (by omega) rfl)) _).trans (hd_L1 (by assumption))) | (exact (congrFun (hw_2 (hw_2 (gw_I (by omega) rfl) (gw_I (by omega) rfl)) (gw_I (by omega) rfl)) _).trans (hd_L2 (by assumption))) | (exact (congrFun (hw_2 (hw_2 (gw_I (by omega) rfl) (gw_I (by omega) rfl)) (gw_I (by omega) rfl)) _).trans (hd_L3 (by assumption))) | assumption) (by omega) (by first | assumption | (exact ix_of (by omega) (by omega)) | (exact ⟨by decide, rfl, by decide⟩)) (by first | (exact (congrFun (hw_2 (hw_2 (gw_I (by omega) rfl) (gw_I (by omega) rfl)) (gw_I (by omega) rfl)) _).trans (hd_J (by omega) rfl)) | (exact (congrFun (hw_2 (hw_2 (gw_I (by omega) rfl) (gw_I (by omega) rfl)) (gw_I (by omega) rfl)) _).trans (hd_L1 (by assumption))) | (exact (congrFun (hw_2 (hw_2 (gw_I (by omega) rfl) (gw_I (by omega) rfl)) (gw_I (by omega) rfl)) _).trans (hd_L2 (by assumption))) | (exact (congrFun (hw_2 (hw_2 (gw_I (by omega) rfl) (gw_I (by omega) rfl)) (gw_I (by omega) rfl)) _).trans (hd_L3 (by assumption))) | assumption) (by omega) (by first | assumption | (exact ix_of (by omega) (by omega)) | (exact ⟨by decide, rfl, by decide⟩)) ?_
      refine hw_W (hw_2 (hw_2 (hw_2 (gw_I (by omega) rfl) (gw_I (by omega) rfl)) (gw_I (by omega) rfl)) ((by first | exact gw_J (by omega) rfl | exact gw_L1 (by assumption) | exact gw_L2 (by assumption) | exact gw_L3 (by assumption)))) ?_
      rw [of_succ]
      refine ih (k + 1) _ (by omega) ((((f1.trans (gKf.sI (q := 558) (by omega))).trans (gKf.sI (q := 559) (by omega))).trans (gKf.sI (q := 560) (by omega))).trans gKf.sJ) h0 (fun i hi => ?_)
      show upd (b1.I 558) k (b1.I 545 k) i = b.I 545 i ∧ upd (b1.I 559) k (b1.I 546 k) i = b.I 546 i ∧ upd (b1.I 560) k (b1.I 547 k) i = b.I 547 i ∧ vp_updL (b1.J 561) k (b1.J 548 k) i = b.J 548 i
      rw [e5, e6, e7, e8]
      by_cases e : i = k
      · rw [e, upd_at, upd_at, upd_at, upL_at]
        exact ⟨rfl, rfl, rfl, rfl⟩
      · rw [upd_ne e, upd_ne e, upd_ne e, upL_ne e]
        exact h1 i (by omega)
theorem g_keep (hn : 575 ≤ n) (hE : gEv b Z) (K : ∀ b1, gAq b b1 → gTo b1 Z → b1.J 550 = b.J 550 → b1.I 505 59 = b.I 505 59 → b1.I 505 0 = b.I 505 0 → b1.P = b.P → Q (.inl (some (.int l4))) (n, sl, hd b1 f0)) : mi_W d 172 108 [some (.ref 505), some (.long u), none, some (.long v), none, some (.int l4), o5] [] (n, sl, hd b f0) Q := by
  obtain ⟨⟨w1, w2, w3⟩, p1, p2, p3⟩ := hE
  have hf : gAq b ((b.sX 65 (b.I 505 47)).sX 66 (b.I 505 48)) := (gAq.sX (k := 65) (by omega)).trans (gAq.sX (k := 66) (by omega))
  have m1 : ((b.sX 65 (b.I 505 47)).sX 66 (b.I 505 48)).I 505 65 = b.I 505 47 := rfl
  have m2 : ((b.sX 65 (b.I 505 47)).sX 66 (b.I 505 48)).I 505 66 = b.I 505 48 := rfl
  have m3 : ((b.sX 65 (b.I 505 47)).sX 66 (b.I 505 48)).I 505 47 = b.I 505 47 := rfl
  have m4 : ((b.sX 65 (b.I 505 47)).sX 66 (b.I 505 48)).I 505 48 = b.I 505 48 := rfl
  have m5 : ((b.sX 65 (b.I 505 47)).sX 66 (b.I 505 48)).I 505 59 = b.I 505 59 := rfl
  have m6 : ((b.sX 65 (b.I 505 47)).sX 66 (b.I 505 48)).I 505 0 = b.I 505 0 := rfl
  have m7 : ((b.sX 65 (b.I 505 47)).sX 66 (b.I 505 48)).P = b.P := rfl
  have m8 : ((b.sX 65 (b.I 505 47)).sX 66 (b.I 505 48)).J = b.J := rfl
  have m9 : ∀ q, 543 ≤ q → q ≤ 547 → ((b.sX 65 (b.I 505 47)).sX 66 (b.I 505 48)).I q = b.I q := fun q h1 h2 => (show (va_up (va_up b.I 505 _) 505 _) q = _ from by rw [va_ne (by omega), va_ne (by omega)])
  refine b_172_108 _ _ _ (by first | (exact hd_9) | assumption) (by omega) (by exact mL_get (by decide)) (by first | (exact hd_9) | assumption) (by omega) (by rw [mL_len]; decide) (by first | (exact (congrFun (gw_X (by decide)) _).trans (hd_9)) | assumption) (by omega) (by exact mL_get (by decide)) (by first | (exact (congrFun (gw_X (by decide)) _).trans (hd_9)) | assumption) (by omega) (by rw [mL_len]; decide) ?_
  refine hw_W (hw_2 (gw_X (by decide)) (gw_X (by decide))) ?_
  show mi_W d 172 127 [some (.ref 505), some (.long u), none, some (.long v), none, some (.int l4), some (.int (Int32.ofNat 0))] [] (n, sl, hd ((b.sX 65 (b.I 505 47)).sX 66 (b.I 505 48)) f0) Q
  generalize (b.sX 65 (b.I 505 47)).sX 66 (b.I 505 48) = c at *
  refine g_kw hn (m3.trans w1) w2 (fun b1 l5 f1 h1 => ?_) Z.ws.1 0 c (by omega) gKf.re (fun i hi => absurd hi (Nat.not_lt_zero i))
  refine b_172_170 _ _ _ ?_
  refine g_kp hn (show b1.I 505 48 = _ from by rw [f1.2.2.2.2.1]; exact m4.trans p1) p2 (fun b2 f2 h2 h3 => ?_) Z.ps.1 0 b1 (by omega) gKf.re ⟨rfl, rfl⟩ (fun i hi => absurd hi (Nat.not_lt_zero i))
  have f12 := f1.trans f2
  refine K b2 (hf.trans f12.1) ⟨⟨?_, w2, fun i hi => ?_⟩, ?_, p2, fun i hi => ?_⟩ ?_ ?_ ?_ ?_
  · rw [f12.2.2.2.2.1, m1]
    exact w1
  · rw [h2.1, h2.2, (h1 i hi).1, (h1 i hi).2, m9 543 (by decide) (by decide), m9 544 (by decide) (by decide)]
    exact w3 i hi
  · rw [f12.2.2.2.2.1, m2]
    exact p1
  · rw [(h3 i hi).1, (h3 i hi).2.1, (h3 i hi).2.2.1, (h3 i hi).2.2.2, f1.2.1 545 (by decide) (by decide), f1.2.1 546 (by decide) (by decide), f1.2.1 547 (by decide) (by decide), f1.2.2.1, m9 545 (by decide) (by decide), m9 546 (by decide) (by decide), m9 547 (by decide) (by decide), m8]
    exact p3 i hi
  · rw [f12.2.2.2.1, m8]
  · rw [f12.2.2.2.2.1, m5]
  · rw [f12.2.2.2.2.1, m6]
  · rw [f12.2.2.2.2.2, m7]
end
