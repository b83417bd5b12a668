/-! both objects against one abstract state: octets fed, place of what is wrong, wallets, inputs, what was told, what was found, contract -/
abbrev mx_K : Type := (Nat × Nat × (Nat → ms_N) × (Nat → Int64 × Int64)) × mv_S × (Nat × Nat × Nat × Nat)
def cFe (a : mh_A) (fd : Nat) (oc : Nat → Int32) : Prop := a.I 1 1 1 = Int32.ofNat fd ∧ fd ≤ 8200 ∧ ∀ k, k < fd → a.AI 1 1 0 k = oc k
def cWa (a : mh_A) (w : Nat → Int64) : Prop := ∀ j, j < 32 → a.AL 5 32 0 j = w j
def cIs (a : mh_A) (many : Nat) (ins : Nat → mv_I) : Prop := a.I 6 35 5 = Int32.ofNat many ∧ many ≤ 16 ∧ ∀ j, j < many → cIn a 35 j (ins j)
def cKo (a : mh_A) (K : mx_K) : Prop := a.I 0 0 9 = 1 ∧ cTb a K.1.1 K.1.2.1 K.1.2.2.1 K.1.2.2.2 ∧ cSt a 497 K.2.1 ∧ a.I 4 16 4 = Int32.ofNat K.2.2.1 ∧ a.I 4 20 4 = Int32.ofNat K.2.2.2.1 ∧ a.I 4 24 4 = Int32.ofNat K.2.2.2.2.1 ∧ a.I 4 28 4 = Int32.ofNat K.2.2.2.2.2
def cCo (a : mh_A) : Option mx_K → Prop
  | none => a.I 0 0 9 = 0
  | some K => cKo a K
def cX (a : mh_A) (fd : Nat) (oc : Nat → Int32) (wr : Int32) (w : Nat → Int64) (many : Nat) (ins : Nat → mv_I) (ev : mv_Z) (re : ma_R) (con : Option mx_K) : Prop := cFe a fd oc ∧ a.I 3 15 6 = wr ∧ cWa a w ∧ cIs a many ins ∧ cEv a 42 ev ∧ cRes a re ∧ cCo a con
def gFe (b : mg_A) (fd : Nat) (oc : Nat → Int32) : Prop := b.I 505 1 = Int32.ofNat fd ∧ fd ≤ 8200 ∧ ∀ k, k < fd → b.I 506 k = oc k &&& 255
def gWa (b : mg_A) (w : Nat → Int64) : Prop := ∀ j, j < 32 → b.J 550 j = w j
def gIs (b : mg_A) (many : Nat) (ins : Nat → mv_I) : Prop := b.I 505 59 = Int32.ofNat many ∧ many ≤ 16 ∧ ∀ j, j < many → gIn b j (ins j)
def gTo (b : mg_A) (Z : mv_Z) : Prop := (b.I 505 65 = Int32.ofNat Z.ws.1 ∧ Z.ws.1 ≤ 148 ∧ ∀ i, i < Z.ws.1 → b.I 556 i = Int32.ofNat (Z.ws.2 i).1 ∧ b.I 557 i = Int32.ofNat (Z.ws.2 i).2) ∧ (b.I 505 66 = Int32.ofNat Z.ps.1 ∧ Z.ps.1 ≤ 148 ∧ ∀ i, i < Z.ps.1 → b.I 558 i = Int32.ofNat (Z.ps.2 i).1 ∧ b.I 559 i = Int32.ofNat (Z.ps.2 i).2.1 ∧ b.I 560 i = Int32.ofNat (Z.ps.2 i).2.2.1 ∧ b.J 561 i = (Z.ps.2 i).2.2.2)
def gRes (b : mg_A) (F : ma_R) : Prop := b.I 505 73 = Int32.ofNat F.2.1 ∧ (¬ F.1 = 1 → b.I 505 75 = 0) ∧ (F.1 = 1 → b.I 505 75 = Int32.ofNat F.2.2.length ∧ F.2.2.length ≤ 104 ∧ ∀ i p, F.2.2[i]? = some p → b.I 564 i = Int32.ofNat p.1 ∧ b.J 567 i = p.2.1 ∧ b.I 565 i = mz_lk p.2.2) ∧ F.1 ≤ 2 ∧ F.2.1 ≤ 5001
def gKo (b : mg_A) (K : mx_K) : Prop := b.I 505 4 = 0 ∧ gTb b K.1.1 K.1.2.1 K.1.2.2.1 K.1.2.2.2 ∧ mg_S b 531 K.2.1 ∧ b.I 505 21 = Int32.ofNat K.1.1 ∧ b.I 505 24 = Int32.ofNat K.2.2.1 ∧ b.I 505 25 = Int32.ofNat K.2.2.2.1 ∧ b.I 505 26 = Int32.ofNat K.2.2.2.2.1 ∧ b.I 505 27 = Int32.ofNat K.2.2.2.2.2
def gCo (b : mg_A) : Option mx_K → Prop
  | none => b.I 505 4 = -1
  | some K => gKo b K
/-- room: what may come yet -/
def gRm (r n sl : Nat) (b : mg_A) : Prop := ∃ u pl, gBy n sl b u pl ∧ b.D 0 = mi_NC ∧ b.D 1 = mi_NS ∧ n + 6 * (104 - u) ≤ 1300 + r ∧ sl + 71 * (104 - u) ≤ 120000 + 6 * r ∧ r ≤ 3072
def gFl (b : mg_A) (p : Nat) : Prop := ∀ j, (b.P 4 p j = 0 ∨ b.P 4 p j = 1) ∧ (b.P 5 p j = 0 ∨ b.P 5 p j = 1)
def gX (r n sl : Nat) (b : mg_A) (fd : Nat) (oc : Nat → Int32) (wr : Int32) (w : Nat → Int64) (many : Nat) (ins : Nat → mv_I) (ev : mv_Z) (re : ma_R) (con : Option mx_K) : Prop := gFe b fd oc ∧ b.I 505 3 = wr ∧ gWa b w ∧ gIs b many ins ∧ gTo b ev ∧ gRes b re ∧ gCo b con ∧ gRm r n sl b ∧ gFl b 531
/-- what holds of the abstract state alone -/
def pK (K : mx_K) : Prop := mv_ok K.2.1 ∧ mz_ok K.1.2.2.1 K.1.1 100 0 K.2.1.at ∧ mo_R K.1.2.2.1 K.1.1 K.2.1.at
def pX (w : Nat → Int64) (con : Option mx_K) : Prop := mv_wk w ∧ ∀ K, con = some K → pK K
/-- the same at one object -/
def cEq (a a' : mh_A) (c r : Nat) : Prop := ∀ k, a'.I c r k = a.I c r k ∧ a'.L c r k = a.L c r k ∧ a'.AI c r k = a.AI c r k ∧ a'.AL c r k = a.AL c r k
section
variable {a a' : mh_A} {fd many N BN : Nat} {oc : Nat → Int32} {w : Nat → Int64} {ins : Nat → mv_I} {ev : mv_Z} {re : ma_R} {con : Option mx_K} {K : mx_K} {tb : Nat → ms_N} {bd : Nat → Int64 × Int64} {q e : Nat} {S : mv_S} {r n sl : Nat} {b b' : mg_A}
theorem cFe.to (h : cFe a fd oc) (f : cEq a a' 1 1) : cFe a' fd oc := by
  unfold cFe
  rw [(f 1).1, (f 0).2.2.1]
  exact h
theorem cWa.to (h : cWa a w) (f : a'.AL 5 32 0 = a.AL 5 32 0) : cWa a' w := by
  unfold cWa
  rw [f]
  exact h
theorem cIs.to (h : cIs a many ins) (f : cEq a a' 6 35) : cIs a' many ins := by
  unfold cIs cIn
  rw [(f 5).1, (f 0).2.2.1, (f 1).2.2.1, (f 2).2.2.1, (f 3).2.2.1, (f 4).2.2.2]
  exact h
theorem cEv.to' (h : cEv a e ev) (f : cEq a a' 8 e) : cEv a' e ev := by
  unfold cEv
  rw [(f 6).1, (f 7).1, (f 0).2.2.1, (f 1).2.2.1, (f 2).2.2.1, (f 3).2.2.1, (f 4).2.2.1, (f 5).2.2.2]
  exact h
theorem cRes.to (h : cRes a re) (f : cEq a a' 11 54) : cRes a' re := by
  unfold cRes
  rw [(f 10).1, (f 11).1, (f 7).2.2.1, (f 8).2.2.2, (f 9).2.2.1]
  exact h
theorem cSt.to' (h : cSt a q S) (f : cEq a a' 9 q) : cSt a' q S := by
  unfold cSt
  rw [(f 0).1, (f 1).2.1, (f 2).2.2.2, (f 3).2.2.2, (f 4).2.2.2, (f 5).1, (f 6).1]
  exact h
theorem cTb.to (h : cTb a N BN tb bd) (f : cEq a a' 2 3) : cTb a' N BN tb bd := by
  obtain ⟨⟨⟨h1, h2⟩, h3, h4⟩, h5, h6⟩ := h
  refine ⟨⟨⟨by rw [(f 11).1]; exact h1, h2⟩, h3.to (fun m _ _ => ⟨fun k _ => by rw [(f k).2.2.1], by rw [(f 9).2.2.2]⟩) (fun _ _ _ => rfl), h4⟩, ?_, h6⟩
  unfold cBd
  rw [(f 10).2.2.2]
  exact h5
theorem cKo.to (h : cKo a K) (f0 : cEq a a' 0 0) (f2 : cEq a a' 2 3) (f9 : cEq a a' 9 497) (f16 : cEq a a' 4 16) (f20 : cEq a a' 4 20) (f24 : cEq a a' 4 24) (f28 : cEq a a' 4 28) : cKo a' K := by
  obtain ⟨h1, h2, h3, h4, h5, h6, h7⟩ := h
  exact ⟨(f0 9).1.trans h1, h2.to f2, h3.to' f9, (f16 4).1.trans h4, (f20 4).1.trans h5, (f24 4).1.trans h6, (f28 4).1.trans h7⟩
theorem cCo.to (h : cCo a con) (f0 : cEq a a' 0 0) (f2 : cEq a a' 2 3) (f9 : cEq a a' 9 497) (f16 : cEq a a' 4 16) (f20 : cEq a a' 4 20) (f24 : cEq a a' 4 24) (f28 : cEq a a' 4 28) : cCo a' con := by
  cases con with
  | none => exact (f0 9).1.trans h
  | some K => exact cKo.to h f0 f2 f9 f16 f20 f24 f28
theorem cEv.z0 (h6 : a.I 8 e 6 = 0) (h7 : a.I 8 e 7 = 0) : cEv a e (mv_z0 S w) := ⟨⟨h6, Nat.zero_le _, fun i hi => absurd hi (Nat.not_lt_zero i)⟩, h7, Nat.zero_le _, fun i hi => absurd hi (Nat.not_lt_zero i)⟩
theorem gTo.z0 (h6 : b.I 505 65 = 0) (h7 : b.I 505 66 = 0) : gTo b (mv_z0 S w) := ⟨⟨h6, Nat.zero_le _, fun i hi => absurd hi (Nat.not_lt_zero i)⟩, h7, Nat.zero_le _, fun i hi => absurd hi (Nat.not_lt_zero i)⟩
theorem gRm.nn (h : gRm r n sl b) : 575 ≤ n ∧ n < 601000 ∧ sl ≤ 7293000 := by
  obtain ⟨u, pl, h1, -, -, h2, h3, h4⟩ := h
  have := h1.2.2.2.2.2.2.2
  exact ⟨this, by omega, by omega⟩
theorem gRm.to (h : gRm r n sl b) (hB : b'.B = b.B) (hD : b'.D = b.D) : gRm r n sl b' := by
  obtain ⟨u, pl, h1, h⟩ := h
  rw [← hD] at h
  exact ⟨u, pl, h1.to hB hD, h⟩
/-- something was thrown -/
theorem gRm.th (h : gRm r n sl b) (hr : r + 1 ≤ 3072) : gRm (r + 1) (n + 1) (sl + 6) b := by
  obtain ⟨u, pl, ⟨h1, h2, h3, h4, h5, h6, h7, h8⟩, h9, h10, h11, h12, -⟩ := h
  refine ⟨u, pl, ⟨fun i hi => ?_, h2, h3, fun q hq => h4 q (by omega), h5, ⟨?_, h6.2⟩, ⟨?_, h7.2⟩, by omega⟩, h9, h10, by omega, by omega, hr⟩
  · obtain ⟨g1, g2, g3, g4⟩ := h1 i hi
    exact ⟨g1, g2, by omega, g4⟩
  · rw [h9]
    exact Nat.le_trans (show n + 1 + 6 * (104 - u) ≤ 1300 + 1 + 3072 by omega) (by decide)
  · rw [h10]
    exact Nat.le_trans (show sl + 6 + 71 * (104 - u) ≤ 120000 + 6 + 6 * 3072 by omega) (by decide)
theorem gRm.up {r' : Nat} (h : gRm r n sl b) (h1 : r ≤ r') (h2 : r' ≤ 3072) : gRm r' n sl b := by
  obtain ⟨u, pl, g1, g2, g3, g4, g5, g6⟩ := h
  exact ⟨u, pl, g1, g2, g3, by omega, by omega, h2⟩
theorem gX.th {fd : Nat} {oc : Nat → Int32} {wr : Int32} (h : gX r n sl b fd oc wr w many ins ev re con) (hr : r + 1 ≤ 3072) : gX (r + 1) (n + 1) (sl + 6) b fd oc wr w many ins ev re con := ⟨h.1, h.2.1, h.2.2.1, h.2.2.2.1, h.2.2.2.2.1, h.2.2.2.2.2.1, h.2.2.2.2.2.2.1, h.2.2.2.2.2.2.2.1.th hr, h.2.2.2.2.2.2.2.2⟩
theorem gX.up {fd r' : Nat} {oc : Nat → Int32} {wr : Int32} (h : gX r n sl b fd oc wr w many ins ev re con) (h1 : r ≤ r') (h2 : r' ≤ 3072) : gX r' n sl b fd oc wr w many ins ev re con := ⟨h.1, h.2.1, h.2.2.1, h.2.2.2.1, h.2.2.2.2.1, h.2.2.2.2.2.1, h.2.2.2.2.2.2.1, h.2.2.2.2.2.2.2.1.up h1 h2, h.2.2.2.2.2.2.2.2⟩
theorem mp_of {p : Int32} {m : Nat} (hm : m < 1000) : mp_r p 0 (Int32.ofNat m) ↔ ∃ i : Nat, i ≤ m ∧ p = Int32.ofNat i := by
  unfold mp_r
  have e0 : (0 : Int32).toInt = 0 := rfl
  have em : (Int32.ofNat m).toInt = m := Int32.toInt_ofNat_of_lt (by omega)
  rw [Int32.lt_iff_toInt_lt, Int32.lt_iff_toInt_lt, e0, em]
  constructor
  · intro h
    refine ⟨p.toInt.toNat, by omega, ?_⟩
    rw [← Int32.toInt_inj, Int32.toInt_ofNat_of_lt (by omega)]
    omega
  · rintro ⟨i, hi, rfl⟩
    rw [Int32.toInt_ofNat_of_lt (by omega)]
    omega
end
