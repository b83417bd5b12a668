/-! the law: what holds between two calls -/
def lG (L : Nat) (xs : Nat → Int32) (g : Nat → mi_C) : Prop := (∃ gl, cLv g gl) ∧ mr_KS 0 g ∧ (∃ go, g 574 = .inl (3, 1, .inr (.inl go))) ∧ g mi_SC = .inl (0, L, .inl xs)
def lO (oc : Nat → Int32) : Prop := ∀ k, -128 ≤ (oc k).toInt ∧ (oc k).toInt ≤ 127
def lS (L : Nat) (xs : Nat → Int32) (r n sl : Nat) (F : Nat → mi_C) : Prop := ∃ a b g fd oc wr w many ins ev re con, F = hd b (hc a g) ∧ cX a fd oc wr w many ins ev re con ∧ gX r n sl b fd oc wr w many ins ev re con ∧ pX w con ∧ lO oc ∧ lG L xs g
section
variable {d L r n sl fd many i : Nat} {xs : Nat → Int32} {g : Nat → mi_C} {a : mh_A} {b : mg_A} {oc : Nat → Int32} {wr x y : Int32} {w : Nat → Int64} {ins : Nat → mv_I} {ev : mv_Z} {re : ma_R} {con : Option mx_K} {Q : (Option Value ⊕ Nat) → mi_H → Prop} {v : Int64} {X : mi_C} {go : Nat → Int64}
theorem lG.th (h : lG L xs g) (h1 : 575 ≤ n) (h2 : n < 601000) : lG L xs (va_up g n X) := by
  have esc := mp_scn
  obtain ⟨⟨gl, c1, c2⟩, ⟨k1, k2, ka, gg, k3, k4, k5, k6⟩, ⟨go, o1⟩, s1⟩ := h
  refine ⟨⟨gl, (va_ne (by omega)).trans c1, c2⟩, ⟨k1, fun c hc => ?_, ka, gg, k3, k4, (va_ne (by omega)).trans k5, k6⟩, ⟨go, (va_ne (by omega)).trans o1⟩, (va_ne (by omega)).trans s1⟩
  obtain ⟨fs, e⟩ := k2 c hc
  exact ⟨fs, (va_ne (by omega)).trans e⟩
theorem lG.ou (h : lG L xs g) : lG L xs (va_up g 574 (.inl (3, 1, .inr (.inl go)))) := by
  have esc := mp_scn
  obtain ⟨⟨gl, c1, c2⟩, ⟨k1, k2, ka, gg, k3, k4, k5, k6⟩, -, s1⟩ := h
  refine ⟨⟨gl, (va_ne (by omega)).trans c1, c2⟩, ⟨k1, fun c hc => ?_, ka, gg, k3, k4, (va_ne (by omega)).trans k5, k6⟩, ⟨go, va_eq⟩, (va_ne (by omega)).trans s1⟩
  obtain ⟨fs, e⟩ := k2 c hc
  exact ⟨fs, (va_ne (by omega)).trans e⟩
theorem lG.ks (h : lG L xs g) (hn : n < 601000) : mr_KS n g := by
  have esc := mp_scn
  obtain ⟨-, ⟨-, k⟩, -⟩ := h
  exact ⟨by omega, k⟩
theorem gX.D0 (h : gX r n sl b fd oc wr w many ins ev re con) {q : Nat} (hq : n ≤ q) : mg_t b.D q = (5, 0, 0) := by
  obtain ⟨u, pl, hBy, -⟩ := h.2.2.2.2.2.2.2.1
  have hn := hBy.2.2.2.2.2.2.2
  rw [mg_th (by omega), hBy.2.2.2.1 q hq]
  rfl
theorem lx_sc (h : lG L xs g) (hG : gX r n sl b fd oc wr w many ins ev re con) : hd b (hc a g) mi_SC = .inl (0, L, .inl xs) := by
  have esc := mp_scn
  have hn := hG.2.2.2.2.2.2.2.1.nn
  rw [hd_5 (by omega) (hG.D0 (by omega)), hc_far (by omega)]
  exact h.2.2.2
theorem lx_ou (ho : g 574 = X) : hd b (hc a g) 574 = X := by
  rw [hd_5 (by decide) rfl, hc_far (by decide)]
  exact ho
theorem lx_0 : hd b (hc a g) 0 = .inr (0, mh_f a 0 0) := by
  rw [hd_lo (by decide)]
  exact hc_o ⟨by decide, rfl⟩
theorem lx_th (hD : mg_t b.D n = (5, 0, 0)) : hc a (va_up (hd b g) n X) = hd b (hc a (va_up g n X)) := by
  rw [hd_out (Or.inr hD), hc_hd]
theorem lx_wr : va_up (hd b (hc a g)) 574 X = hd b (hc a (va_up g 574 X)) := by
  rw [hd_out (Or.inr rfl), hc_out (by decide)]
theorem lx_ch {y pc ce hp : Nat} {ls : mi_L} {rest : List Value} (hf : mi_hf (mt_oc y) pc ce (mt_hd y) = some (some hp)) (hD : mg_t b.D n = (5, 0, 0)) (h5 : 575 ≤ n) (k : mi_W (d + 1) y hp ls [.ref n] (n + 1, sl + 6, hd b (hc a (va_up g n (.inr (ce, []))))) Q) : mi_Kc d y pc ls rest Q (.inr n) (n + 1, sl + 6, hc a (va_up (hd b g) n (.inr (ce, [])))) := by
  rw [lx_th hD]
  refine ⟨ce, [], ?_, Nat.lt_succ_self n, Or.inl ⟨hp, hf, k⟩⟩
  show hd b (hc a (va_up g n (.inr (ce, [])))) n = _
  rw [hd_5 (by omega) hD, hc_far (by omega), va_eq]
theorem lx_cG (h : lG L xs g) (hG : gX r n sl b fd oc wr w many ins ev re con) : cG n sl (hd b g) := by
  have hn := hG.2.2.2.2.2.2.2.1.nn
  have hk := hG.ks (h.ks hn.2.1)
  exact ⟨hn.1, hn.2, hk.1, hk.2.1⟩
theorem lx_Lv (h : lG L xs g) : ∃ gl, cLv (hd b g) gl := by
  obtain ⟨⟨gl, c1, c2⟩, -⟩ := h
  exact ⟨gl, (hd_lo (by decide)).trans c1, c2⟩
theorem lx_ks (h : lG L xs g) (hn : n < 601000) : mr_KS n (hc a g) := (h.ks hn).to (fun q hq => hc_far (by omega))
theorem lO.fe {x1 x2 x3 x4 x5 : Int32} (h : lO oc) : lO (mx_fe oc fd x1 x2 x3 x4 x5) := by
  intro k
  unfold mx_fe
  split
  · exact h k
  · rw [mx_by8]
    rw [Int8.toInt_toInt32]
    exact ⟨Int8.le_toInt _, Int8.toInt_le _⟩
theorem mv_wk.up {k : Nat} (h : mv_wk w) (h1 : 0 ≤ v) (h2 : v ≤ 2305843009213693952) : mv_wk (va_up w k v) := by
  intro j
  by_cases e : j = k
  · rw [e, va_eq]
    rw [Int64.le_iff_toInt_le] at h1 h2
    rw [show (0 : Int64).toInt = 0 from rfl] at h1
    rw [show (2305843009213693952 : Int64).toInt = 2305843009213693952 from rfl] at h2
    exact ⟨h1, by omega⟩
  · rw [va_ne e]
    exact h j
theorem lv_V {i j : Nat} (hi : i < 8) (hj : j < 4) (ex : x = Int32.ofNat i) (ey : y = Int32.ofNat j) (h1 : 0 ≤ v) (h2 : v ≤ 2305843009213693952) : mp_V x y v := ⟨(mp_of (m := 7) (by decide)).mpr ⟨i, by omega, ex⟩, (mp_of (m := 3) (by decide)).mpr ⟨j, by omega, ey⟩, h1, h2⟩
theorem of_nj {i j : Nat} {x : Int32} (h1 : x = Int32.ofNat i) (h2 : x = Int32.ofNat j) (hi : i ≤ 1000000) (hj : j ≤ 1000000) : i = j := (of_eq hi hj).mp (h1.symm.trans h2)
theorem pX.wal {k : Nat} (h : pX w con) (h1 : 0 ≤ v) (h2 : v ≤ 2305843009213693952) : pX (va_up w k v) con := ⟨h.1.up h1 h2, h.2⟩
theorem lx_end {L : Nat} (hx : x = Int32.ofNat L) (hL : L ≤ 8192) (hf : L ≤ fd) (h8 : fd ≤ 8200) : ¬ (x < 0 ∨ 8192 < x ∨ ¬ x ≤ Int32.ofNat fd) := by
  subst hx
  rw [show (8192 : Int32) = Int32.ofNat 8192 from rfl]
  rintro (h | h | h)
  · exact absurd h (of_nn (by omega))
  · rw [Int32.lt_iff_toInt_lt, Int32.toInt_ofNat_of_lt (by omega), Int32.toInt_ofNat_of_lt (by omega)] at h
    omega
  · exact h ((of_le (by omega) (by omega)).mpr hf)
theorem lx_ix {k : Nat} (hi : i + k < L) (hL : L ≤ 3072) (hk : k < 10) {kk : Int32} (e : kk = Int32.ofNat k) : mi_ix (Int32.ofNat i + kk) L (i + k) := by
  subst e
  rw [← Int32.ofNat_add]
  exact ix_of (by omega) (by omega)
end
section
variable {d L r n sl y pc : Nat} {xs : Nat → Int32} {g : Nat → mi_C} {a : mh_A} {b : mg_A} {Q : (Option Value ⊕ Nat) → mi_H → Prop} {v : Int64} {X : mi_C} {go : Nat → Int64} {ls : mi_L} {rest : List Value} {o : Option Value ⊕ Nat}
theorem lx_ret {j : Nat} (hg : lG L xs g) (hj : j = 0) (k : ∀ g1 go1, lG L xs g1 → g1 574 = .inl (3, 1, .inr (.inl go1)) → go1 0 = v → mi_Kc d y pc ls rest Q o (n, sl, hd b (hc a g1))) : mi_Kc d y pc ls rest Q o (n, sl, va_up (hd b (hc a g)) 574 (.inl (3, 1, .inr (.inl (vp_updL go j v))))) := by
  rw [lx_wr]
  subst hj
  exact k _ _ hg.ou va_eq upL_at
theorem lx_thr (hg : lG L xs g) (h1 : 575 ≤ n) (h2 : n < 601000) (k : ∀ g1 go1, lG L xs g1 → g1 574 = .inl (3, 1, .inr (.inl go1)) → mi_Kc d y pc ls rest Q o (n + 1, sl + 6, hd b (hc a g1))) : mi_Kc d y pc ls rest Q o (n + 1, sl + 6, hd b (hc a (va_up g n X))) := by
  have hg1 : lG L xs (va_up g n X) := hg.th h1 h2
  obtain ⟨go, ho⟩ := hg1.2.2.1
  exact k _ go hg1 ho
end
