/-! the first object: end, against the abstract state -/
def mx_S0 : mv_S := (0, 0, fun _ => 0, fun _ => none, fun _ => none)
def mx_K0 (σ : ms_S) : mx_K := ((σ.n, σ.q, σ.tb, σ.bd), mx_S0, (σ.P.1, σ.T.1, σ.H.1, σ.N.1))
section
variable {d e n sl fd many : Nat} {a a' : mh_A} {f0 : Nat → mi_C} {Q : (Option Value ⊕ Nat) → mi_H → Prop} {oc : Nat → Int32} {wr x : Int32} {w : Nat → Int64} {ins : Nat → mv_I} {ev : mv_Z} {re : ma_R} {con : Option mx_K} {gg : Nat → Nat → Int32} {σ : ms_S} {L : Nat} {g : Nat → Int32}
theorem cbit0 {j : Nat} (hj : j < 8) : ¬ cbit 0 j := by
  rcases (by omega : j = 0 ∨ j = 1 ∨ j = 2 ∨ j = 3 ∨ j = 4 ∨ j = 5 ∨ j = 6 ∨ j = 7) with rfl | rfl | rfl | rfl | rfl | rfl | rfl | rfl <;> (intro h; exact h (by decide))
theorem cS0.st (h : cS0 a 497) : cSt a 497 mx_S0 := by
  obtain ⟨h1, h2, h3, h4, h5, h6, h7⟩ := h
  refine ⟨⟨by decide, rfl⟩, ⟨h1, (show (0 : Nat) ≤ 800 by decide)⟩, h2, h3, h4, h5, fun j hj => ?_, fun j hj => ?_⟩
  · rw [h6]
    exact ⟨fun g => absurd g (cbit0 hj), fun g => absurd (show false = true from g) (by decide)⟩
  · rw [h7]
    exact ⟨fun g => absurd g (cbit0 hj), fun g => absurd (show false = true from g) (by decide)⟩
theorem cX.en (h : cX a fd oc wr w many ins ev re con) (f : cE a a') {wr' : Int32} (h6 : a'.I 3 15 6 = wr') {con' : Option mx_K} (hC : cCo a' con') : cX a' 0 oc wr' w 0 ins ev re con' := by
  have E : ∀ c r, 4 < c → ¬ (c = 9 ∧ r = 497) → ¬ (c = 6 ∧ r = 35) → cEq a a' c r := fun c r h1 h2 h3 k => ⟨(f.2.2.2.2 c r k h1 h2).1 (fun q => h3 ⟨q.1, q.2.1⟩), (f.2.2.2.2 c r k h1 h2).2⟩
  exact ⟨⟨f.2.1, Nat.zero_le _, fun k hk => absurd hk (Nat.not_lt_zero k)⟩, h6, h.2.2.1.to (E 5 32 (by decide) (by decide) (by decide) 0).2.2.2, ⟨f.2.2.1, Nat.zero_le _, fun k hk => absurd hk (Nat.not_lt_zero k)⟩, h.2.2.2.2.1.to' (E 8 42 (by decide) (by decide) (by decide)), h.2.2.2.2.2.1.to (E 11 54 (by decide) (by decide) (by decide)), hC⟩
theorem cq_end (hG : cG n sl f0) (h : cX a fd oc wr w many ins ev re con) (hog : ∀ L, L ≤ fd → (∀ j, j < L → ¬ ms_fb (oc j)) → ∀ k, k < L → oc k = gg L k) (K1 : (x < 0 ∨ 8192 < x ∨ ¬ x ≤ Int32.ofNat fd) → Q (.inr n) (n + 1, sl + 6, hc a (va_up f0 n (.inr (14, []))))) (K2 : ∀ L wv a', x = Int32.ofNat L → L ≤ 8192 → L ≤ fd → ((wv < L ∧ ms_fb (oc wv) ∧ ∀ j, j < wv → ¬ ms_fb (oc j)) ∨ (∀ j, j < L → ¬ ms_fb (oc j)) ∧ ms_read (gg L) L = .error wv) → cX a' 0 oc (Int32.ofNat wv) w 0 ins ev re none → Q (.inr n) (n + 1, sl + 6, hc a' (va_up f0 n (.inr (15, []))))) (K3 : ∀ L σ a', x = Int32.ofNat L → L ≤ 8192 → L ≤ fd → (∀ j, j < L → ¬ ms_fb (oc j)) → ms_read (gg L) L = .ok ((), σ) → cX a' 0 oc (-1) w 0 ins ev re (some (mx_K0 σ)) → Q (.inl (some (.int (Int32.ofNat σ.n)))) (n, sl, hc a' f0)) : mi_W (e + 213) 17 0 (mi_en 2 [.ref 0, .int x]) [] (n, sl, hc a f0) Q := by
  have e1 : a.I 1 1 1 = Int32.ofNat fd := h.1.1
  have ho := h.1.2.2
  refine ce_end2 (gg := gg) hG (fun L hL hno k hk => ?_) e1 h.1.2.1 (fun hx => ?_) (fun L wv a' hx hL hLf hw f h6 h9 => ?_) (fun L σ a' hx hL hLf hno hrd hst hrg h7 h0 hS0 f h6 h9 => ?_)
  · rw [ho k (by omega)]
    refine hog L hL (fun j hj => ?_) k hk
    rw [← ho j (by omega)]
    exact hno j hj
  · rw [e1] at hx
    exact K1 hx
  · refine K2 L wv a' hx hL hLf ?_ (h.en f h6 h9)
    rcases hw with ⟨hw, hb, hno⟩ | ⟨hno, hrd⟩
    · refine Or.inl ⟨hw, ?_, fun j hj => ?_⟩
      · rw [← ho wv (by omega)]
        exact hb
      · rw [← ho j (by omega)]
        exact hno j hj
    · refine Or.inr ⟨fun j hj => ?_, hrd⟩
      rw [← ho j (by omega)]
      exact hno j hj
  · have hok := ms_read_ok hrd
    have hle := hst.1.le
    refine K3 L σ a' hx hL hLf (fun j hj => by rw [← ho j (by omega)]; exact hno j hj) hrd (h.en f h6 ?_)
    refine ⟨h9, ⟨⟨hst.2.1, hrg, fun m => ms_sm_in (hok.2.1 m)⟩, ⟨?_, hst.2.2.1.2.2, hok.2.2.2⟩, hok.2.2.1⟩, hS0.st, hst.2.2.2.1.2.2.2.2.2.1, hst.2.2.2.2.1.2.2.2.2.2.1, hst.2.2.2.2.2.2.1.2.2.2.2.2.1, hst.2.2.2.2.2.1.2.2.2.2.2.1⟩
    have := hst.2.2.1.2.1
    show σ.q ≤ 2048
    omega
end
