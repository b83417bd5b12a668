/-! the first object while it reads -/
def cT (a : mh_A) (g : Nat → Int32) (L : Nat) (t : ms_T) : Prop := a.I 1 1 6 = Int32.ofNat L ∧ L ≤ 8192 ∧ (∀ k, k < L → a.AI 1 1 0 k = g k) ∧ a.I 1 1 2 = Int32.ofNat t.k ∧ a.I 1 1 3 = Int32.ofNat t.a ∧ a.I 1 1 4 = Int32.ofNat (t.b - t.a) ∧ (t.k = 37 → a.L 1 1 5 = t.v) ∧ ∃ k, k ≤ L ∧ t = ms_tk g L k
def cst (a : mh_A) (g : Nat → Int32) (L : Nat) (σ : ms_S) : Prop := cT a g L σ.t ∧ (a.I 2 3 11 = Int32.ofNat σ.n ∧ σ.n ≤ 800) ∧ (a.I 2 3 12 = Int32.ofNat (2 * σ.q) ∧ 4 * σ.q ≤ σ.t.b ∧ ∀ i, i < σ.q → a.AL 2 3 10 (2 * i) = (σ.bd i).1 ∧ a.AL 2 3 10 (2 * i + 1) = (σ.bd i).2) ∧ cn_T a 16 8 L σ.P.1 (fun i => (σ.P.2 i).1) (fun i => (σ.P.2 i).2) (fun _ => -1) ∧ cn_T a 20 4 L σ.T.1 (fun i => (σ.T.2 i).1) (fun i => (σ.T.2 i).2) (fun _ => -1) ∧ cn_T a 28 8 L σ.N.1 (fun i => (σ.N.2 i).1) (fun i => (σ.N.2 i).2) (fun _ => -1) ∧ cn_T a 24 8 L σ.H.1 (fun i => (σ.H.2 i).1) (fun i => (σ.H.2 i).2.1) (fun i => Int32.ofNat (σ.H.2 i).2.2) ∧ ∀ i, i < σ.H.1 → (σ.H.2 i).2.2 < σ.P.1
/-- what reading leaves as it is -/
def cF (a a' : mh_A) : Prop := (∀ c p k, (c = 0 ∨ 4 < c) → a'.I c p k = a.I c p k ∧ a'.L c p k = a.L c p k ∧ a'.AI c p k = a.AI c p k ∧ a'.AL c p k = a.AL c p k) ∧ a'.R = a.R ∧ a'.I 1 1 1 = a.I 1 1 1 ∧ a'.AI 1 1 0 = a.AI 1 1 0
def cOld (N : Nat) (a a' : mh_A) : Prop := ∀ m, m < N → (∀ k, k < 9 → a'.AI 2 3 k m = a.AI 2 3 k m) ∧ a'.AL 2 3 9 m = a.AL 2 3 9 m
def cgo (a : mh_A) (σ : ms_S) (a' : mh_A) (σ' : ms_S) : Prop := cF a a' ∧ cOld σ.n a a' ∧ (σ.n ≤ σ'.n ∧ σ.q ≤ σ'.q ∧ (∀ m, m < σ.n → σ'.tb m = σ.tb m) ∧ ∀ i, i < σ.q → σ'.bd i = σ.bd i) ∧ a'.I 3 15 6 = a.I 3 15 6
/-- a node's fields: kind, left, middle, right, first, second, third, -, into -/
def cz_k : List Nat := [0, 1, 1, 4, 5, 6, 7, 8, 9, 10, 37, 11, 12, 28, 29, 30, 31, 13, 14, 15, 16, 17, 18, 19, 20, 21, 22, 23, 35, 34, 33, 32, 36]
def cz_1 : List Nat := [1, 2, 3, 5, 6, 7, 9, 12, 13, 14, 15, 16, 21, 24, 25, 26, 28, 29, 30, 31, 32]
def cz_3 : List Nat := [1, 2, 4, 5, 6, 13, 14, 15, 16, 24, 25, 28, 29, 30, 31, 32]
def cz_4 : List Nat := [1, 2, 5, 7, 8, 11, 17, 18, 27]
def cz_f (c : ms_N) (k : Nat) : Int32 := match k with
  | 0 => Int32.ofNat (cz_k.getD c.1 0)
  | 1 => if c.1 = 4 then mz_lk c.2.2.2.2.2.1 else if cz_1.contains c.1 = true then Int32.ofNat c.2.2.2.2.2.1 else -1
  | 2 => if [3, 7, 8, 9, 21].contains c.1 = true then Int32.ofNat c.2.2.2.2.2.2.1 else -1
  | 3 => if cz_3.contains c.1 = true then Int32.ofNat c.2.2.2.2.2.2.1 else if [3, 21].contains c.1 = true then Int32.ofNat c.2.2.2.2.2.2.2.1 else if [7, 8, 9].contains c.1 = true then mz_lk c.2.2.2.2.2.2.2.1 else -1
  | 4 => if cz_4.contains c.1 = true then Int32.ofNat c.2.1 else -1
  | 5 => if [1, 2, 7].contains c.1 = true then Int32.ofNat c.2.2.1 else if c.1 = 8 then Int32.ofNat (2 * c.2.2.2.2.2.2.2.2.2) else if c.1 = 11 then Int32.ofNat c.2.2.2.1 else -1
  | 6 => if [1, 2, 7].contains c.1 = true then Int32.ofNat c.2.2.2.1 else if c.1 = 8 then Int32.ofNat (2 * (c.2.2.2.2.2.2.2.2.2 + c.2.2.2.2.2.2.2.2.1)) else -1
  | _ => if c.1 = 2 then 1 else 0
/-- the last part of a node, 0: none -/
def cz_lc (c : ms_N) : Nat := if [12, 26].contains c.1 = true then c.2.2.2.2.2.1 else if cz_3.contains c.1 = true then c.2.2.2.2.2.2.1 else if [3, 21].contains c.1 = true then c.2.2.2.2.2.2.2.1 else 0
def cRow (a : mh_A) (c : ms_N) (m : Nat) : Prop := (∀ k, k < 9 → ¬ k = 7 → a.AI 2 3 k m = cz_f c k) ∧ a.AL 2 3 9 m = c.2.2.2.2.1 ∧ a.AI 2 3 7 m = if cz_lc c = 0 then Int32.ofNat (m + 1) else a.AI 2 3 7 (cz_lc c)
def crg (lo hi : Nat) (a : mh_A) (tb : Nat → ms_N) : Prop := ∀ m, lo ≤ m → m < hi → cRow a (tb m) m ∧ (cz_lc (tb m) = 0 ∨ (m < cz_lc (tb m) ∧ cz_lc (tb m) < hi))
/-- a node's fields while it is read -/
def cB (a : mh_A) (m : Nat) (R : Nat → Int32) (v : Int64) : Prop := (∀ k, k < 9 → a.AI 2 3 k m = R k) ∧ a.AL 2 3 9 m = v
def cR0 (kd m : Nat) (k : Nat) : Int32 := if k = 0 then Int32.ofNat kd else if k = 7 then Int32.ofNat (m + 1) else if k = 8 then 0 else -1
def cw (k m : Nat) (v : Int32) (a : mh_A) : mh_A := a.sAI 2 3 k (upd (a.AI 2 3 k) m v)
section
variable {a a0 a1 a2 : mh_A} {σ σ0 σ1 σ2 : ms_S} {g : Nat → Int32} {L m k lo hi N : Nat} {v : Int32} {u : Int64} {R : Nat → Int32} {tb tb' : Nat → ms_N}
theorem cF.re : cF a a := ⟨fun _ _ _ _ => ⟨rfl, rfl, rfl, rfl⟩, rfl, rfl, rfl⟩
theorem cF.trans (h : cF a a1) (h' : cF a1 a2) : cF a a2 := ⟨fun c p k hc => ⟨(h'.1 c p k hc).1.trans (h.1 c p k hc).1, (h'.1 c p k hc).2.1.trans (h.1 c p k hc).2.1, (h'.1 c p k hc).2.2.1.trans (h.1 c p k hc).2.2.1, (h'.1 c p k hc).2.2.2.trans (h.1 c p k hc).2.2.2⟩, h'.2.1.trans h.2.1, h'.2.2.1.trans h.2.2.1, h'.2.2.2.trans h.2.2.2⟩
theorem cOld.trans {N' : Nat} (h : cOld N a a1) (h' : cOld N' a1 a2) (hN : N ≤ N') : cOld N a a2 := fun m hm => ⟨fun k hk => ((h' m (by omega)).1 k hk).trans ((h m hm).1 k hk), (h' m (by omega)).2.trans (h m hm).2⟩
theorem cgo.re : cgo a σ a σ := ⟨cF.re, fun _ _ => ⟨fun _ _ => rfl, rfl⟩, ⟨Nat.le_refl _, Nat.le_refl _, fun _ _ => rfl, fun _ _ => rfl⟩, rfl⟩
theorem cgo.trans (h : cgo a σ a1 σ1) (h' : cgo a1 σ1 a2 σ2) : cgo a σ a2 σ2 := ⟨h.1.trans h'.1, h.2.1.trans h'.2.1 h.2.2.1.1, ⟨Nat.le_trans h.2.2.1.1 h'.2.2.1.1, Nat.le_trans h.2.2.1.2.1 h'.2.2.1.2.1, fun m hm => (h'.2.2.1.2.2.1 m (Nat.lt_of_lt_of_le hm h.2.2.1.1)).trans (h.2.2.1.2.2.1 m hm), fun m hm => (h'.2.2.1.2.2.2 m (Nat.lt_of_lt_of_le hm h.2.2.1.2.1)).trans (h.2.2.1.2.2.2 m hm)⟩, h'.2.2.2.trans h.2.2.2⟩
theorem cB.go (h : cB a m R u) (hg : cgo a σ a1 σ1) (hm : m < σ.n) : cB a1 m R u := ⟨fun k hk => ((hg.2.1 m hm).1 k hk).trans (h.1 k hk), (hg.2.1 m hm).2.trans h.2⟩
theorem cw_at : (cw k m v a).AI 2 3 k m = v := by
  show mh_u a.AI 2 3 k (upd (a.AI 2 3 k) m v) 2 3 k m = v
  rw [mh_u_at]
  simp [upd]
theorem cw_ne {k' m' : Nat} (h : ¬ (k' = k ∧ m' = m)) : (cw k m v a).AI 2 3 k' m' = a.AI 2 3 k' m' := by
  show mh_u a.AI 2 3 k (upd (a.AI 2 3 k) m v) 2 3 k' m' = _
  by_cases e : k' = k
  · subst e
    rw [mh_u_at]
    simp [upd, show ¬ m' = m from fun e => h ⟨rfl, e⟩]
  · rw [mh_u_k e]
theorem cB.w (h : cB a m R u) : cB (cw k m v a) m (va_up R k v) u := by
  refine ⟨fun k' hk => ?_, h.2⟩
  by_cases e : k' = k
  · subst e
    rw [cw_at, va_eq]
  · rw [cw_ne (fun z => e z.1), va_ne e]
    exact h.1 k' hk
theorem cF.w (h : cF a0 a) : cF a0 (cw k m v a) := ⟨fun c p k' hc => ⟨(h.1 c p k' hc).1, (h.1 c p k' hc).2.1, (mh_u_c (by omega)).trans (h.1 c p k' hc).2.2.1, (h.1 c p k' hc).2.2.2⟩, h.2.1, h.2.2.1, h.2.2.2⟩
theorem cgo.w (h : cgo a0 σ0 a σ) (hm : σ0.n ≤ m) : cgo a0 σ0 (cw k m v a) σ := ⟨h.1.w, fun m' hm' => ⟨fun k' hk => (cw_ne (fun z => by omega)).trans ((h.2.1 m' hm').1 k' hk), (h.2.1 m' hm').2⟩, h.2.2.1, h.2.2.2⟩
theorem cst.w (h : cst a g L σ) : cst (cw k m v a) g L σ := h
theorem cst.set {c : ms_N} (h : cst a g L σ) : cst a g L (σ.set m c) := h
theorem cgo.set {c : ms_N} (h : cgo a0 σ0 a σ) (hm : σ0.n ≤ m) : cgo a0 σ0 a (σ.set m c) := ⟨h.1, h.2.1, ⟨h.2.2.1.1, h.2.2.1.2.1, fun m' hm' => (va_ne (by omega)).trans (h.2.2.1.2.2.1 m' hm'), h.2.2.1.2.2.2⟩, h.2.2.2⟩
theorem cRow.to {c : ms_N} (h : cRow a c m) (hm : ∀ k, k < 9 → a1.AI 2 3 k m = a.AI 2 3 k m) (hv : a1.AL 2 3 9 m = a.AL 2 3 9 m) (hl : ¬ cz_lc c = 0 → a1.AI 2 3 7 (cz_lc c) = a.AI 2 3 7 (cz_lc c)) : cRow a1 c m := by
  refine ⟨fun k hk h7 => (hm k hk).trans (h.1 k hk h7), hv.trans h.2.1, ?_⟩
  rw [hm 7 (by omega), h.2.2]
  by_cases e : cz_lc c = 0
  · rw [if_pos e, if_pos e]
  · rw [if_neg e, if_neg e, hl e]
theorem crg.to (h : crg lo hi a tb) (hm : ∀ m, lo ≤ m → m < hi → (∀ k, k < 9 → a1.AI 2 3 k m = a.AI 2 3 k m) ∧ a1.AL 2 3 9 m = a.AL 2 3 9 m) (ht : ∀ m, lo ≤ m → m < hi → tb' m = tb m) : crg lo hi a1 tb' := by
  intro m h1 h2
  obtain ⟨r1, r2⟩ := h m h1 h2
  rw [ht m h1 h2]
  refine ⟨r1.to (hm m h1 h2).1 (hm m h1 h2).2 (fun e => ?_), r2⟩
  have := r2.resolve_left e
  exact (hm _ (by omega) this.2).1 7 (by omega)
theorem crg.go (h : crg lo hi a σ.tb) (hg : cgo a σ a1 σ1) (hh : hi ≤ σ.n) : crg lo hi a1 σ1.tb := h.to (fun m _ h2 => hg.2.1 m (by omega)) (fun m _ h2 => hg.2.2.1.2.2.1 m (by omega))
theorem crg.w (h : crg lo hi a tb) (hm : m < lo) : crg lo hi (cw k m v a) tb := h.to (fun m' h1 _ => ⟨fun k' _ => cw_ne (fun z => by omega), rfl⟩) (fun _ _ _ => rfl)
theorem crg.join {mid : Nat} (h : crg lo mid a tb) (h' : crg mid hi a tb) (hm : mid ≤ hi) : crg lo hi a tb := by
  intro m h1 h2
  by_cases e : m < mid
  · obtain ⟨r1, r2⟩ := h m h1 e
    exact ⟨r1, r2.imp id (fun z => ⟨z.1, by omega⟩)⟩
  · exact h' m (by omega) h2
theorem crg.nil : crg lo lo a tb := fun m h1 h2 => absurd h2 (by omega)
theorem crg.one {c : ms_N} (h : crg (m + 1) hi a tb) (hr : cRow a c m) (hl : cz_lc c = 0 ∨ (m < cz_lc c ∧ cz_lc c < hi)) (hm : m < hi) : crg m hi a (va_up tb m c) := by
  intro m' h1 h2
  by_cases e : m' = m
  · subst e
    rw [va_eq]
    exact ⟨hr, hl⟩
  · rw [va_ne e]
    exact h m' (by omega) h2
theorem cT.le (h : cT a g L σ.t) : σ.t.a ≤ σ.t.b ∧ σ.t.b ≤ L ∧ L ≤ 8192 := by
  obtain ⟨-, h8, -, -, -, -, -, k, hk, e⟩ := h
  have := ms_tk_le (g := g) hk
  rw [e]
  omega
theorem ms_nx_tk {p : Nat} : ∃ k, (p ≤ L → k ≤ L) ∧ ms_nx g L p = ms_tk g L k := ⟨ms_sk g (L - p) p, fun h => by have := ms_sk_le (g := g) (L - p) p; omega, rfl⟩
theorem ms_tk_40 {j : Nat} (hj : j ≤ L) : (ms_tk g L j).k ≤ 40 := by
  unfold ms_tk
  split
  · show 39 ≤ 40
    omega
  · split
    · show ms_ky g j (ms_wd g L 16 j) 24 0 ≤ 40
      rcases ms_ky_is (g := g) (a := j) (b := ms_wd g L 16 j) 24 0 with h | h <;> omega
    · split
      · show 37 ≤ 40
        omega
      · split
        · show 37 ≤ 40
          omega
        · exact ms_sg_r.2.1
theorem cT.k40 (h : cT a g L σ.t) : σ.t.k ≤ 40 := by
  obtain ⟨-, h8, -, -, -, -, -, k, hk, e⟩ := h
  rw [e]
  exact ms_tk_40 hk
theorem cst.nx {w : Int64} (h : cst a g L σ) (hw : (σ.nx g L).t.k = 37 → w = (σ.nx g L).t.v) : cst (mh_tk a (σ.nx g L).t w) g L (σ.nx g L) := by
  have hle := h.1.le
  obtain ⟨⟨e1, e2, e3, e4, e5, e6, e7, e8⟩, r2, ⟨r3, r4, r5⟩, r6⟩ := h
  have hl := ms_nx_le (g := g) (L := L) (p := σ.t.b) hle.2.1
  obtain ⟨k, hk, ek⟩ := ms_nx_tk (g := g) (L := L) (p := σ.t.b)
  refine ⟨⟨e1, e2, e3, rfl, rfl, rfl, hw, k, hk hle.2.1, ek⟩, r2, ⟨r3, ?_, r5⟩, r6⟩
  show 4 * σ.q ≤ (ms_nx g L σ.t.b).b
  omega
theorem cgo.nx {w : Int64} {t : ms_T} : cgo a σ (mh_tk a t w) (σ.nx g L) := by
  refine ⟨⟨fun c p k hc => ⟨?_, ?_, rfl, rfl⟩, rfl, rfl, rfl⟩, fun _ _ => ⟨fun _ _ => rfl, rfl⟩, ⟨Nat.le_refl _, Nat.le_refl _, fun _ _ => rfl, fun _ _ => rfl⟩, rfl⟩
  · show (if c = 1 then _ else _) = _
    rw [if_neg (by omega)]
  · show (if c = 1 then _ else _) = _
    rw [if_neg (by omega)]
end
section
variable {d n sl : Nat} {a a0 : mh_A} {σ σ0 : ms_S} {f0 : Nat → mi_C} {Q : (Option Value ⊕ Nat) → mi_H → Prop} {g : Nat → Int32} {L : Nat}
/-- what does not change while it reads -/
def cG (n sl : Nat) (f0 : Nat → mi_C) : Prop := 575 ≤ n ∧ (n < 601000 ∧ sl ≤ 7293000) ∧ mc_K n f0
def cEr (n sl : Nat) (f0 : Nat → mi_C) (Q : (Option Value ⊕ Nat) → mi_H → Prop) (a : mh_A) (w : Nat) : Prop := ∀ a', cF a a' → a'.I 3 15 6 = Int32.ofNat w → Q (.inr n) (n + 1, sl + 6, hc a' (va_up f0 n (.inr (15, []))))
theorem cEr.go {w : Nat} {a1 : mh_A} (h : cEr n sl f0 Q a w) (hf : cF a a1) : cEr n sl f0 Q a1 w := fun a' h1 h2 => h a' (hf.trans h1) h2
theorem cEr.at {w : Nat} {x : Int32} {a1 : mh_A} (h : cEr n sl f0 Q a w) (hf : cF a a1) (hx : x = Int32.ofNat w) : Q (.inr n) (n + 1, sl + 6, hc (a1.sI 3 15 6 x) (va_up f0 n (.inr (15, [])))) := h _ ⟨fun c p k hc => ⟨(mh_u_c (by omega)).trans (hf.1 c p k hc).1, (hf.1 c p k hc).2.1, (hf.1 c p k hc).2.2.1, (hf.1 c p k hc).2.2.2⟩, hf.2.1, hf.2.2.1, hf.2.2.2⟩ hx
theorem cr_adv (hG : cG n sl f0) (h : cst a g L σ) (K : ∀ a', cst a' g L (σ.nx g L) → cgo a σ a' (σ.nx g L) → a'.AI = a.AI → a'.AL = a.AL → Q (.inl none) (n, sl, hc a' f0)) : mi_W (d + 6) 24 0 (mi_en 2 [.ref 1]) [] (n, sl, hc a f0) Q := by
  have hle := h.1.le
  refine cs_adv (p := σ.t.b) hG.1 hG.2.2 h.1.1 h.1.2.1 h.1.2.2.1 hle.2.1 ?_ (fun v hv => K _ (h.nx hv) cgo.nx rfl rfl)
  rw [h.1.2.2.2.2.1, h.1.2.2.2.2.2.1, of_add', show σ.t.a + (σ.t.b - σ.t.a) = σ.t.b by omega]
theorem cr_take {k : Nat} (hG : cG n sl f0) (hk : k ≤ 40) (h : cst a g L σ) (K : ms_need g L k σ = .ok ((), σ.nx g L) → ∀ a', cst a' g L (σ.nx g L) → cgo a σ a' (σ.nx g L) → a'.AI = a.AI → a'.AL = a.AL → Q (.inl none) (n, sl, hc a' f0)) (er : ∀ w, ms_need g L k σ = .error w → cEr n sl f0 Q a w) : mi_W (d + 7) 39 0 (mi_en 2 [.ref 15, .int (Int32.ofNat k)]) [] (n, sl, hc a f0) Q := by
  have hn := hG.1
  have h40 := h.1.k40
  have h2 := h.1.2.2.2.1
  refine b_39_0 _ _ _ (by first | (exact hc_o (by first | assumption | (exact ⟨by decide, rfl⟩))) | assumption | (exact (hc_far (by omega)).trans (by assumption))) (by omega) (by first | rfl | assumption) (by first | (exact hc_o (by first | assumption | (exact ⟨by decide, rfl⟩))) | assumption | (exact (hc_far (by omega)).trans (by assumption))) (by omega) (by first | rfl | assumption) ?_ ?_
  · intro z0
    have hk' : ¬ σ.t.k = k := fun e => z0 (by rw [h2, e])
    refine b_39_16 _ _ _ ?_
    refine b_39_17 _ _ _ (by first | (exact hc_o (by first | assumption | (exact ⟨by decide, rfl⟩))) | assumption | (exact (hc_far (by omega)).trans (by assumption))) (by omega) ?_
    refine cr_re0 hn hG.2.1 ?_
    refine hx_c (by decide +kernel) (by omega) ?_
    exact (er σ.t.a (by unfold ms_need; rw [if_neg hk'])).at cF.re h.1.2.2.2.2.1
  · intro z0
    have hk' : σ.t.k = k := (i_eq h2 rfl (by omega) (by omega)).mp (Classical.not_not.mp z0)
    refine b_39_12 _ _ _ ?_
    refine b_39_17 _ _ _ (by first | (exact hc_o (by first | assumption | (exact ⟨by decide, rfl⟩))) | assumption | (exact (hc_far (by omega)).trans (by assumption))) (by omega) ?_
    refine cr_re1 hn hG.2.1 ?_
    refine b_39_20 _ _ _ (by first | (exact hc_o (by first | assumption | (exact ⟨by decide, rfl⟩))) | assumption | (exact (hc_far (by omega)).trans (by assumption))) (by omega) (by first | rfl | assumption) (by first | (exact hc_o (by first | assumption | (exact ⟨by decide, rfl⟩))) | assumption | (exact (hc_far (by omega)).trans (by assumption))) (by omega) ?_
    refine cr_adv (d := d) hG h (fun a' h1 h2 h3 h4 => ?_)
    refine b_39_27 _ _ _ ?_
    exact K (by unfold ms_need; rw [if_pos hk']) a' h1 h2 h3 h4
theorem cr_num (hG : cG n sl f0) (h : cst a g L σ) (K : σ.t.k = 37 → ∀ a', cst a' g L (σ.nx g L) → cgo a σ a' (σ.nx g L) → a'.AI = a.AI → a'.AL = a.AL → Q (.inl (some (.long σ.t.v))) (n, sl, hc a' f0)) (er : ¬ σ.t.k = 37 → cEr n sl f0 Q a σ.t.a) : mi_W (d + 7) 53 0 (mi_en 3 [.ref 15]) [] (n, sl, hc a f0) Q := by
  have hn := hG.1
  have h40 := h.1.k40
  have h2 := h.1.2.2.2.1
  refine b_53_0 _ _ _ (by first | (exact hc_o (by first | assumption | (exact ⟨by decide, rfl⟩))) | assumption | (exact (hc_far (by omega)).trans (by assumption))) (by omega) (by first | rfl | assumption) (by first | (exact hc_o (by first | assumption | (exact ⟨by decide, rfl⟩))) | assumption | (exact (hc_far (by omega)).trans (by assumption))) (by omega) (by first | rfl | assumption) ?_ ?_
  · intro z0
    have hk' : ¬ σ.t.k = 37 := fun e => z0 (by rw [h2, e]; rfl)
    refine b_53_17 _ _ _ ?_
    refine b_53_18 _ _ _ (by first | (exact hc_o (by first | assumption | (exact ⟨by decide, rfl⟩))) | assumption | (exact (hc_far (by omega)).trans (by assumption))) (by omega) ?_
    refine cr_re0 hn hG.2.1 ?_
    refine hx_c (by decide +kernel) (by omega) ?_
    exact (er hk').at cF.re h.1.2.2.2.2.1
  · intro z0
    have hk' : σ.t.k = 37 := (i_eq (b := 37) h2 rfl (by omega) (by omega)).mp (Classical.not_not.mp z0)
    refine b_53_13 _ _ _ ?_
    refine b_53_18 _ _ _ (by first | (exact hc_o (by first | assumption | (exact ⟨by decide, rfl⟩))) | assumption | (exact (hc_far (by omega)).trans (by assumption))) (by omega) ?_
    refine cr_re1 hn hG.2.1 ?_
    refine b_53_21 _ _ _ (by first | (exact hc_o (by first | assumption | (exact ⟨by decide, rfl⟩))) | assumption | (exact (hc_far (by omega)).trans (by assumption))) (by omega) (by first | rfl | assumption) (by first | (exact hc_o (by first | assumption | (exact ⟨by decide, rfl⟩))) | assumption | (exact (hc_far (by omega)).trans (by assumption))) (by omega) (by first | rfl | assumption) (by first | (exact hc_o (by first | assumption | (exact ⟨by decide, rfl⟩))) | assumption | (exact (hc_far (by omega)).trans (by assumption))) (by omega) (by first | rfl | assumption) (by first | (exact hc_o (by first | assumption | (exact ⟨by decide, rfl⟩))) | assumption | (exact (hc_far (by omega)).trans (by assumption))) (by omega) ?_
    have hv : a.L 1 1 5 = σ.t.v := h.1.2.2.2.2.2.2.1 hk'
    refine cr_adv (d := d) hG h (fun a' h1 h2 h3 h4 => ?_)
    refine b_53_36 _ _ _ ?_
    rw [hv]
    exact K hk' a' h1 h2 h3 h4
end
