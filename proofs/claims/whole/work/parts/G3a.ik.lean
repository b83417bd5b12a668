/-! the law: octets of both objects, what is wrong first -/
theorem lx_tab : ∀ k : Fin 256, ((¬ (Int32.ofInt ((k.1 : Int) - 128) &&& 255) = 10 ∧ ¬ ((32 : Int64) ≤ (Int32.ofInt ((k.1 : Int) - 128) &&& 255).toInt64 ∧ (Int32.ofInt ((k.1 : Int) - 128) &&& 255).toInt64 ≤ 126)) ↔ (¬ Int32.ofInt ((k.1 : Int) - 128) = 10 ∧ (Int32.ofInt ((k.1 : Int) - 128) < 32 ∨ ¬ Int32.ofInt ((k.1 : Int) - 128) ≤ 126))) ∧ ((¬ (¬ Int32.ofInt ((k.1 : Int) - 128) = 10 ∧ (Int32.ofInt ((k.1 : Int) - 128) < 32 ∨ ¬ Int32.ofInt ((k.1 : Int) - 128) ≤ 126))) → Int32.ofInt ((k.1 : Int) - 128) &&& 255 = Int32.ofInt ((k.1 : Int) - 128)) := by decide +kernel
theorem lx_by {o : Int32} (h : -128 ≤ o.toInt ∧ o.toInt ≤ 127) : (rfb (o &&& 255) ↔ ms_fb o) ∧ (¬ ms_fb o → o &&& 255 = o) := by
  have e : o = Int32.ofInt (((o.toInt + 128).toNat : Int) - 128) := by
    rw [show (((o.toInt + 128).toNat : Int) - 128) = o.toInt by omega]
    exact (Int32.ofInt_toInt o).symm
  have t := lx_tab ⟨(o.toInt + 128).toNat, by omega⟩
  dsimp only at t
  rw [← e] at t
  exact t
section
variable {L L1 L2 r n sl fd many v1 v2 : Nat} {a : mh_A} {b : mg_A} {oc : Nat → Int32} {wr : Int32} {w : Nat → Int64} {ins : Nat → mv_I} {ev : mv_Z} {re : ma_R} {con : Option mx_K} {σ : ms_S}
theorem lx_rf (hG : gX r n sl b fd oc wr w many ins ev re con) (hO : lO oc) {j : Nat} (hj : j < fd) : rfb (b.I 506 j) ↔ ms_fb (oc j) := by
  rw [hG.1.2.2 j hj]
  exact (lx_by (hO j)).1
theorem lx_og (hG : gX r n sl b fd oc wr w many ins ev re con) (hO : lO oc) : ∀ L, L ≤ fd → (∀ j, j < L → ¬ ms_fb (oc j)) → ∀ k, k < L → oc k = rG (b.I 506) (b.I 507) L k := by
  intro L hL hno k hk
  unfold rG
  rw [if_pos hk, hG.1.2.2 k (by omega)]
  exact ((lx_by (hO k)).2 (hno k hk)).symm
theorem lx_w (hG : gX r n sl b fd oc wr w many ins ev re con) (hO : lO oc) (hL : L ≤ fd) (w1 : (v1 < L ∧ ms_fb (oc v1) ∧ ∀ j, j < v1 → ¬ ms_fb (oc j)) ∨ (∀ j, j < L → ¬ ms_fb (oc j)) ∧ ms_read (rG (b.I 506) (b.I 507) L) L = .error v1) (w2 : (v2 < L ∧ rfb (b.I 506 v2) ∧ ∀ j, j < v2 → ¬ rfb (b.I 506 j)) ∨ (∀ j, j < L → ¬ rfb (b.I 506 j)) ∧ ms_read (rG (b.I 506) (b.I 507) L) L = .error v2) : v1 = v2 := by
  rcases w1 with ⟨p1, p2, p3⟩ | ⟨p1, p2⟩ <;> rcases w2 with ⟨q1, q2, q3⟩ | ⟨q1, q2⟩
  · have q2' := (lx_rf hG hO (by omega)).mp q2
    rcases Nat.lt_trichotomy v1 v2 with h | h | h
    · exact absurd ((lx_rf hG hO (by omega)).mpr p2) (q3 v1 h)
    · exact h
    · exact absurd q2' (p3 v2 h)
  · exact absurd ((lx_rf hG hO (by omega)).mpr p2) (q1 v1 p1)
  · exact absurd ((lx_rf hG hO (by omega)).mp q2) (p1 v2 q1)
  · exact Except.error.inj (p2.symm.trans q2)
theorem lx_w3 (hG : gX r n sl b fd oc wr w many ins ev re con) (hO : lO oc) (hL : L1 ≤ fd) (w1 : (v1 < L1 ∧ ms_fb (oc v1) ∧ ∀ j, j < v1 → ¬ ms_fb (oc j)) ∨ (∀ j, j < L1 → ¬ ms_fb (oc j)) ∧ ms_read (rG (b.I 506) (b.I 507) L1) L1 = .error v1) (q : L1 = L2) (w2 : ∀ j, j < L2 → ¬ rfb (b.I 506 j)) (r2 : ms_read (rG (b.I 506) (b.I 507) L2) L2 = .ok ((), σ)) : False := by
  subst q
  rcases w1 with ⟨p1, p2, p3⟩ | ⟨p1, p2⟩
  · exact w2 v1 p1 ((lx_rf hG hO (by omega)).mpr p2)
  · have := p2.symm.trans r2
    cases this
theorem lx_w2 (hG : gX r n sl b fd oc wr w many ins ev re con) (hO : lO oc) (hL : L1 ≤ fd) (w1 : ∀ j, j < L1 → ¬ ms_fb (oc j)) (r1 : ms_read (rG (b.I 506) (b.I 507) L1) L1 = .ok ((), σ)) (q : L1 = L2) (w2 : (v2 < L2 ∧ rfb (b.I 506 v2) ∧ ∀ j, j < v2 → ¬ rfb (b.I 506 j)) ∨ (∀ j, j < L2 → ¬ rfb (b.I 506 j)) ∧ ms_read (rG (b.I 506) (b.I 507) L2) L2 = .error v2) : False := by
  subst q
  rcases w2 with ⟨q1, q2, q3⟩ | ⟨q1, q2⟩
  · exact w1 v2 q1 ((lx_rf hG hO (by omega)).mp q2)
  · have := r1.symm.trans q2
    cases this
theorem mx_cn_le {i : Nat} (h : cEv a 42 ev) : mx_cn ev i ≤ 148 := by
  have h1 := h.1.2.1
  have h2 := h.2.2.1
  unfold mx_cn
  split <;> omega
end
