/-! states of the second object; reckoning, whole -/
abbrev mr_E : Type := Int32 × Int64 × (Nat → Int64) × (Nat → Int64) × (Nat → Int64) × (Nat → Int32) × (Nat → Int32)
def mr_Sv (f : Nat → mi_C) (p : Nat) (e : mr_E) : Prop := f p = .inr (13, [.int e.1, .long e.2.1, .ref (p + 1), .ref (p + 2), .ref (p + 3), .ref (p + 4), .ref (p + 5)]) ∧ f (p + 1) = .inl (3, 32, .inr (.inl e.2.2.1)) ∧ f (p + 2) = .inl (3, 8, .inr (.inl e.2.2.2.1)) ∧ f (p + 3) = .inl (3, 8, .inr (.inl e.2.2.2.2.1)) ∧ f (p + 4) = .inl (2, 8, .inl e.2.2.2.2.2.1) ∧ f (p + 5) = .inl (2, 8, .inl e.2.2.2.2.2.2) ∧ (∀ j, e.2.2.2.2.2.1 j = 0 ∨ e.2.2.2.2.2.1 j = 1) ∧ ∀ j, e.2.2.2.2.2.2 j = 0 ∨ e.2.2.2.2.2.2 j = 1
def mr_P (p n : Nat) : Prop := (531 ≤ p ∧ p ≤ 537 ∨ 574 < p) ∧ p + 5 < n ∧ 575 ≤ n
section
variable {d n sl p k : Nat} {f f' : Nat → mi_C} {X : Nat → Int32} {Y : Nat → Int64} {I : Nat → Nat → Int32} {J : Nat → Nat → Int64} {e : mr_E} {Q : (Option Value ⊕ Nat) → mi_H → Prop}
theorem mr_P.far (h : mr_P p n) {j : Nat} (hj : j ≤ 5) : mr_far (p + j) := by
  unfold mr_P at h
  unfold mr_far
  omega
theorem mr_Sv.to (h : mr_Sv f p e) (hf : ∀ q, p ≤ q → q ≤ p + 5 → f' q = f q) : mr_Sv f' p e := by
  obtain ⟨h0, h1, h2, h3, h4, h5, h6, h7⟩ := h
  exact ⟨(hf _ (by omega) (by omega)).trans h0, (hf _ (by omega) (by omega)).trans h1, (hf _ (by omega) (by omega)).trans h2, (hf _ (by omega) (by omega)).trans h3, (hf _ (by omega) (by omega)).trans h4, (hf _ (by omega) (by omega)).trans h5, h6, h7⟩
theorem mr_Sv.St (h : mr_Sv f p e) : mr_St f p := ⟨_, _, _, _, _, _, _, h⟩
theorem mr_V_of (hB : mr_B f X Y (.ref p) I J) (hS : mr_Sv f p e) (hP : mr_P p n) : mr_V n f p I J := by
  refine ⟨hP.2.2, ⟨hB.2.1 (509, 800) (by decide), hB.2.1 (510, 800) (by decide), hB.2.1 (511, 800) (by decide), hB.2.1 (512, 800) (by decide), hB.2.1 (513, 800) (by decide), hB.2.2 (517, 800) (by decide)⟩, ⟨hP.2.1, ?_⟩, hS.St⟩
  unfold mr_P at hP
  omega
theorem va_self {α : Type} {g : Nat → α} {j : Nat} {v : α} (h : g j = v) : va_up g j v = g := by
  funext i
  simp only [va_up]
  split
  · rename_i e
    rw [e, h]
  · rfl
theorem mr_u_self {s : Value} (h : f 505 = .inr (12, mL 88 (mr_S X Y s))) : mr_u f X Y s (X 46) = f := by
  unfold mr_u
  rw [va_self rfl, va_self h]
theorem sb_tell {m : Int32} (hB : mr_B f X Y (.ref p) I J) (hS : mr_Sv f p e) (hP : mr_P p n) (hl : X 46 = 0 ∨ X 46 = 1) (hw : mr_wf I k false m) (hd : k + 3 ≤ d) (kk : ∀ v l f', (l = 0 ∨ l = 1) → mr_B f' (va_up X 46 l) Y (.ref p) I J → mr_Sv f' p e → (∀ q, ¬ q = 505 → f' q = f q) → Q (.inl (some (.long v))) (n, sl, f')) : mi_W d 177 0 (mi_en 2 [.ref 505, .int m]) [] (n, sl, f) Q := by
  have h := (sv_ev (n := n) (sl := sl) (X := X) (Y := Y) (mr_V_of hB hS hP) k).1 d m (X 46) Q hd hl hw
  rw [mr_u_self hB.1] at h
  refine h (fun v l hl => kk v l _ hl hB.at505 (hS.to (fun q h1 _ => mr_u_ne ?_)) (fun q hq => mr_u_ne hq))
  unfold mr_P at hP
  omega
theorem sb_holds {m : Int32} (hB : mr_B f X Y (.ref p) I J) (hS : mr_Sv f p e) (hP : mr_P p n) (hl : X 46 = 0 ∨ X 46 = 1) (hw : mr_wf I k true m) (hd : k + 3 ≤ d) (kk : ∀ v l f', (v = 0 ∨ v = 1) → (l = 0 ∨ l = 1) → mr_B f' (va_up X 46 l) Y (.ref p) I J → mr_Sv f' p e → (∀ q, ¬ q = 505 → f' q = f q) → Q (.inl (some (.int v))) (n, sl, f')) : mi_W d 179 0 (mi_en 6 [.ref 505, .int m]) [] (n, sl, f) Q := by
  have h := (sv_ev (n := n) (sl := sl) (X := X) (Y := Y) (mr_V_of hB hS hP) k).2 d m (X 46) Q hd hl hw
  rw [mr_u_self hB.1] at h
  refine h (fun v l hv hl => kk v l _ hv hl hB.at505 (hS.to (fun q h1 _ => mr_u_ne ?_)) (fun q hq => mr_u_ne hq))
  unfold mr_P at hP
  omega
end
