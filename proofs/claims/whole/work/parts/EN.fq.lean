/-! the second object: what its search works on -/
def gTb (b : mg_A) (N BN : Nat) (tb : Nat → ms_N) (bd : Nat → Int64 × Int64) : Prop := (N ≤ 800 ∧ (∀ m, m < N → gRow b (tb m) m) ∧ mv_tok tb) ∧ gBd b BN bd tb ∧ ∀ j, ms_bo (bd j)
/-- states by depth: u of them, at the places pl; there is room for the others -/
def gBy (n sl : Nat) (b : mg_A) (u : Nat) (pl : Nat → Nat) : Prop := (∀ i, i < u → b.B i = some (pl i) ∧ 574 < pl i ∧ pl i + 5 < n ∧ mg_o b.D (pl i)) ∧ (∀ i, u ≤ i → b.B i = none) ∧ (∀ i j, i < u → j < u → pl i = pl j → i = j) ∧ (∀ q, n ≤ q → b.D q = 0) ∧ u ≤ 104 ∧ (n + 6 * (104 - u) ≤ b.D 0 ∧ b.D 0 ≤ mi_NC) ∧ (sl + 71 * (104 - u) ≤ b.D 1 ∧ b.D 1 ≤ mi_NS) ∧ 575 ≤ n
def gCx (n sl : Nat) (b : mg_A) (w u : Nat) (pl : Nat → Nat) (c N BN : Nat) (tb : Nat → ms_N) (bd : Nat → Int64 × Int64) : Prop := gTb b N BN tb bd ∧ b.I 505 57 = 0 ∧ gBy n sl b u pl ∧ (b.I 505 73 = Int32.ofNat c ∧ c ≤ 5001) ∧ (b.I 505 74 = Int32.ofNat w ∧ w ≤ 103)
/-- what the search below w leaves as it is -/
def gAf (w u : Nat) (pl : Nat → Nat) (b b' : mg_A) : Prop := (∀ q, ¬ q = 505 → (q < 543 ∨ 547 < q) → (q < 551 ∨ 554 < q) → (q < 562 ∨ 565 < q) → b'.I q = b.I q) ∧ (∀ q, ¬ q = 505 → ¬ q = 548 → ¬ q = 549 → ¬ q = 555 → ¬ q = 566 → ¬ q = 567 → b'.J q = b.J q) ∧ (∀ j, j < 43 ∨ (48 < j ∧ j < 58) ∨ (59 < j ∧ j < 73) ∨ 75 < j → b'.I 505 j = b.I 505 j) ∧ (∀ j, ¬ j = 44 → ¬ j = 45 → b'.J 505 j = b.J 505 j) ∧ (∀ k r, (∀ i, w ≤ i → i < u → ¬ r = pl i) → b'.P k r = b.P k r ∧ b'.L k r = b.L k r) ∧ ∀ i, i < w → b'.I 562 i = b.I 562 i ∧ b'.I 563 i = b.I 563 i ∧ b'.J 566 i = b.J 566 i
/-- what was found -/
def gFd (w : Nat) (b b' : mg_A) (r : ma_R) : Prop := (¬ r.1 = 1 → b'.I 505 75 = b.I 505 75) ∧ (r.1 = 1 → b'.I 505 75 = Int32.ofNat (w + r.2.2.length) ∧ w + r.2.2.length ≤ 104 ∧ (∀ i, i < w → b'.I 564 i = b.I 562 i ∧ b'.I 565 i = b.I 563 i ∧ b'.J 567 i = b.J 566 i) ∧ ∀ i p, r.2.2[i]? = some p → b'.I 564 (w + i) = Int32.ofNat p.1 ∧ b'.J 567 (w + i) = p.2.1 ∧ b'.I 565 (w + i) = mz_lk p.2.2)
def gPo (n : Nat) (b : mg_A) (w u : Nat) (pl : Nat → Nat) (N BN : Nat) (tb : Nat → ms_N) (bd : Nat → Int64 × Int64) (r : ma_R) (n' sl' : Nat) (b' : mg_A) : Prop := ∃ u' pl', gCx n' sl' b' w u' pl' r.2.1 N BN tb bd ∧ gAf w u' pl' b b' ∧ u ≤ u' ∧ ((∀ i, i < u → pl' i = pl i) ∧ ∀ i, u ≤ i → i < u' → n ≤ pl' i) ∧ n ≤ n' ∧ (∀ q, q < n → b'.D q = b.D q) ∧ gFd w b b' r ∧ r.1 ≤ 2
section
variable {n sl n1 sl1 N BN w u u1 u2 i k q x : Nat} {b b0 b1 b2 : mg_A} {pl pl1 pl2 : Nat → Nat} {tb : Nat → ms_N} {bd : Nat → Int64 × Int64} {S : mv_S} {r r1 r2 : ma_R}
theorem gAf.re : gAf w u pl b b := ⟨fun _ _ _ _ _ => rfl, fun _ _ _ _ _ _ _ => rfl, fun _ _ => rfl, fun _ _ _ => rfl, fun _ _ _ => ⟨rfl, rfl⟩, fun _ _ => ⟨rfl, rfl, rfl⟩⟩
theorem gAf.trans (h : gAf w u pl b b1) (h' : gAf w u1 pl1 b1 b2) (hu : u ≤ u1) (hp : ∀ i, i < u → pl1 i = pl i) : gAf w u1 pl1 b b2 := ⟨fun q h1 h2 h3 h4 => (h'.1 q h1 h2 h3 h4).trans (h.1 q h1 h2 h3 h4), fun q h1 h2 h3 h4 h5 h6 => (h'.2.1 q h1 h2 h3 h4 h5 h6).trans (h.2.1 q h1 h2 h3 h4 h5 h6), fun j hj => (h'.2.2.1 j hj).trans (h.2.2.1 j hj), fun j h1 h2 => (h'.2.2.2.1 j h1 h2).trans (h.2.2.2.1 j h1 h2), fun k r hr => ⟨(h'.2.2.2.2.1 k r hr).1.trans (h.2.2.2.2.1 k r (fun i h1 h2 => by rw [← hp i h2]; exact hr i h1 (by omega))).1, (h'.2.2.2.2.1 k r hr).2.trans (h.2.2.2.2.1 k r (fun i h1 h2 => by rw [← hp i h2]; exact hr i h1 (by omega))).2⟩, fun i hi => ⟨(h'.2.2.2.2.2 i hi).1.trans (h.2.2.2.2.2 i hi).1, (h'.2.2.2.2.2 i hi).2.1.trans (h.2.2.2.2.2 i hi).2.1, (h'.2.2.2.2.2 i hi).2.2.trans (h.2.2.2.2.2 i hi).2.2⟩⟩
/-- a transaction on the state of this depth -/
theorem gAf.tf (h : gTf (pl w) b b1) (hw : w < u) : gAf w u pl b b1 := ⟨fun q h1 h2 _ _ => h.2.1 q (by omega), fun q h1 h2 h3 _ _ _ => h.2.2.1 q (by omega), fun j hj => h.2.2.2.1 j (by omega) (by omega) (by omega) (by omega), h.2.2.2.2.1, fun k r hr => h.2.2.2.2.2 k r (hr w (Nat.le_refl _) hw), fun i _ => ⟨by rw [h.2.1 562 (by decide)], by rw [h.2.1 563 (by decide)], by rw [h.2.2.1 566 (by decide)]⟩⟩
theorem gAf.cf (h : gCf (pl w) b b1) (hw : w < u) : gAf w u pl b b1 := ⟨fun q _ _ _ _ => by rw [h.1], fun q _ _ _ _ _ _ => by rw [h.2.1], fun j _ => by rw [h.1], fun j _ _ => by rw [h.2.1], fun k r hr => h.2.2.2.2.2 k r (hr w (Nat.le_refl _) hw), fun i _ => by rw [h.1, h.2.1]; exact ⟨rfl, rfl, rfl⟩⟩
theorem gAf.sS {v : Value} : gAf w u pl b (b.sS v) := ⟨fun _ _ _ _ _ => rfl, fun _ _ _ _ _ _ _ => rfl, fun _ _ => rfl, fun _ _ _ => rfl, fun _ _ _ => ⟨rfl, rfl⟩, fun _ _ => ⟨rfl, rfl, rfl⟩⟩
theorem gAf.sX {x : Int32} (hk : (43 ≤ k ∧ k ≤ 48) ∨ k = 58 ∨ k = 59 ∨ (73 ≤ k ∧ k ≤ 75)) : gAf w u pl b (b.sX k x) := ⟨fun q h1 _ _ _ => va_ne h1, fun _ _ _ _ _ _ _ => rfl, fun j hj => (congrFun (va_eq (f := b.I) (k := 505)) j).trans (va_ne (by omega)), fun _ _ _ => rfl, fun _ _ _ => ⟨rfl, rfl⟩, fun i _ => ⟨rfl, rfl, rfl⟩⟩
theorem gAf.sI {g : Nat → Int32} (hq : (551 ≤ q ∧ q ≤ 554) ∨ (564 ≤ q ∧ q ≤ 565)) : gAf w u pl b (b.sI q g) := ⟨fun q' h1 h2 h3 h4 => va_ne (by omega), fun _ _ _ _ _ _ _ => rfl, fun j hj => congrFun (va_ne (f := b.I) (by omega)) j, fun _ _ _ => rfl, fun _ _ _ => ⟨rfl, rfl⟩, fun i _ => ⟨congrFun (va_ne (f := b.I) (by omega)) i, congrFun (va_ne (f := b.I) (by omega)) i, rfl⟩⟩
theorem gAf.sJ {g : Nat → Int64} (hq : q = 555 ∨ q = 567) : gAf w u pl b (b.sJ q g) := ⟨fun _ _ _ _ _ => rfl, fun q' h1 h2 h3 h4 h5 h6 => va_ne (by omega), fun _ _ => rfl, fun j h1 h2 => congrFun (va_ne (f := b.J) (by omega)) j, fun _ _ _ => ⟨rfl, rfl⟩, fun i _ => ⟨rfl, rfl, congrFun (va_ne (f := b.J) (by omega)) i⟩⟩
theorem gAf.sIw {y : Int32} (hq : q = 562 ∨ q = 563) : gAf w u pl b (b.sI q (upd (b.I q) w y)) := by
  refine ⟨fun q' h1 h2 h3 h4 => va_ne (by omega), fun _ _ _ _ _ _ _ => rfl, fun j hj => congrFun (va_ne (f := b.I) (by omega)) j, fun _ _ _ => rfl, fun _ _ _ => ⟨rfl, rfl⟩, fun i hi => ⟨?_, ?_, rfl⟩⟩
  · show va_up b.I q (upd (b.I q) w y) 562 i = _
    rcases hq with rfl | rfl
    · rw [va_eq, upd_ne (by omega)]
    · rw [va_ne (by decide)]
  · show va_up b.I q (upd (b.I q) w y) 563 i = _
    rcases hq with rfl | rfl
    · rw [va_ne (by decide)]
    · rw [va_eq, upd_ne (by omega)]
theorem gAf.sJw {y : Int64} : gAf w u pl b (b.sJ 566 (vp_updL (b.J 566) w y)) := by
  refine ⟨fun _ _ _ _ _ => rfl, fun q' h1 h2 h3 h4 h5 h6 => va_ne (by omega), fun _ _ => rfl, fun _ _ _ => rfl, fun _ _ _ => ⟨rfl, rfl⟩, fun i hi => ⟨rfl, rfl, ?_⟩⟩
  show va_up b.J 566 (vp_updL (b.J 566) w y) 566 i = _
  rw [va_eq, upL_ne (by omega)]
theorem gTb.af (h : gTb b N BN tb bd) (f : gAf w u pl b b1) : gTb b1 N BN tb bd := by
  obtain ⟨⟨h1, h2, h3⟩, h4, h5⟩ := h
  have fi : ∀ q, ¬ q = 505 → q < 543 → b1.I q = b.I q := fun q h1 h2 => f.1 q h1 (by omega) (by omega) (by omega)
  have fj : ∀ q, ¬ q = 505 → q < 543 → b1.J q = b.J q := fun q h1 h2 => f.2.1 q h1 (by omega) (by omega) (by omega) (by omega) (by omega)
  refine ⟨⟨h1, fun m hm => ?_, h3⟩, ?_, h5⟩
  · unfold gRow
    rw [fi 509 (by decide) (by decide), fi 510 (by decide) (by decide), fi 511 (by decide) (by decide), fi 512 (by decide) (by decide), fi 513 (by decide) (by decide), fi 514 (by decide) (by decide), fi 515 (by decide) (by decide), fi 516 (by decide) (by decide), fi 529 (by decide) (by decide), fi 530 (by decide) (by decide), fj 517 (by decide) (by decide)]
    exact h2 m hm
  · unfold gBd
    rw [fj 518 (by decide) (by decide), fj 519 (by decide) (by decide)]
    exact h4
/-- a state that lies elsewhere stays -/
theorem gAf.st {p : Nat} (f : gAf w u pl b b1) (hp : ∀ i, w ≤ i → i < u → ¬ p = pl i) (hD : mg_o b1.D p) (h : mg_S b p S) : mg_S b1 p S := by
  have fz := fun k => f.2.2.2.2.1 k p hp
  obtain ⟨-, h⟩ := h
  refine ⟨hD, ?_⟩
  rw [(fz 0).1, (fz 0).2, (fz 1).2, (fz 2).2, (fz 3).2, (fz 4).1, (fz 5).1]
  exact h
theorem gBy.to (h : gBy n sl b u pl) (hB : b1.B = b.B) (hD : b1.D = b.D) : gBy n sl b1 u pl := by
  unfold gBy
  rw [hB, hD]
  exact h
theorem mg_o_D {D D' : Nat → Nat} {p : Nat} (h : mg_o D p) (hD : ∀ q, q < n → D' q = D q) (hp : p + 5 < n) : mg_o D' p := by
  have e : ∀ q, q < n → mg_t D' q = mg_t D q := fun q hq => by
    unfold mg_t
    rw [hD q hq]
  unfold mg_o
  rw [e p (by omega), e (p + 1) (by omega), e (p + 2) (by omega), e (p + 3) (by omega), e (p + 4) (by omega), e (p + 5) (by omega)]
  exact h
end
