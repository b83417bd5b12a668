/-! nodes: the table that is asked for, and the second object's -/
def mz_rows : List (List Nat) := [[1, 2, 5, 7, 8, 11, 17, 18, 27], [1, 2, 7], [1, 2, 7, 11], [4, 10], [1, 2, 3, 5, 6, 7, 9, 21], [12, 13, 14, 15, 16, 24, 25, 26, 28, 29, 30, 31, 32], [4], [1, 2, 4, 5, 6, 7, 8, 9], [3, 21], [13, 14, 15, 16, 24, 25, 28, 29, 30, 31, 32], [3, 21], [7, 8, 9], [8], [8]]
def mz_t (i op : Nat) : Bool := (mz_rows.getD i []).contains op
def mz_lk (v : Nat) : Int32 := if v = 0 then -1 else Int32.ofNat v
def mr_nr (z : mr_Z) (c : ms_N) (m : Nat) : Prop := z.I 509 m = Int32.ofNat c.1 ∧ (mz_t 0 c.1 = true → z.I 510 m = Int32.ofNat c.2.1) ∧ (mz_t 1 c.1 = true → z.I 511 m = Int32.ofNat c.2.2.1) ∧ (mz_t 2 c.1 = true → z.I 512 m = Int32.ofNat c.2.2.2.1) ∧ (mz_t 3 c.1 = true → z.J 517 m = c.2.2.2.2.1) ∧ (mz_t 4 c.1 = true → z.I 513 m = Int32.ofNat c.2.2.2.2.2.1) ∧ (mz_t 5 c.1 = true → z.I 510 m = Int32.ofNat c.2.2.2.2.2.1) ∧ (mz_t 6 c.1 = true → z.I 514 m = mz_lk c.2.2.2.2.2.1) ∧ (mz_t 7 c.1 = true → z.I 516 m = Int32.ofNat c.2.2.2.2.2.2.1) ∧ (mz_t 8 c.1 = true → z.I 510 m = Int32.ofNat c.2.2.2.2.2.2.1) ∧ (mz_t 9 c.1 = true → z.I 511 m = Int32.ofNat c.2.2.2.2.2.2.1) ∧ (mz_t 10 c.1 = true → z.I 511 m = Int32.ofNat c.2.2.2.2.2.2.2.1) ∧ (mz_t 11 c.1 = true → z.I 529 m = mz_lk c.2.2.2.2.2.2.2.1) ∧ (mz_t 12 c.1 = true → z.I 515 m = Int32.ofNat c.2.2.2.2.2.2.2.2.1) ∧ (mz_t 13 c.1 = true → z.I 530 m = Int32.ofNat c.2.2.2.2.2.2.2.2.2)
/-- what a node has stays -/
def mr_kp (m : Nat) (z z' : mr_Z) : Prop := (∀ q, q < 520 ∨ 528 < q → z'.I q m = z.I q m) ∧ z'.J 517 m = z.J 517 m
def mr_rg (lo hi : Nat) (z : mr_Z) (σ : ms_S) : Prop := ∀ m, lo ≤ m → m < hi → mr_nr z (σ.tb m) m
def mz_so (op : Nat) : Nat := ([0, 0, 0, 0, 0, 0, 0, 3, 3, 3, 1, 1, 1, 1, 1, 1, 1, 1, 1, 1, 1, 1, 2, 2, 2, 2, 2, 2, 2, 2, 2, 2, 2] : List Nat).getD op 9
def mz_sx (op : Nat) : Nat := ([9, 1, 1, 2, 9, 1, 2, 1, 9, 2, 9, 9, 1, 1, 1, 1, 1, 9, 9, 9, 9, 2, 9, 9, 2, 2, 2, 9, 1, 1, 1, 1, 1] : List Nat).getD op 9
def mz_sy (op : Nat) : Nat := ([9, 0, 0, 0, 0, 0, 0, 0, 0, 0, 9, 9, 9, 1, 1, 1, 1, 9, 9, 9, 9, 1, 9, 9, 2, 2, 9, 9, 1, 1, 1, 1, 1] : List Nat).getD op 9
def mz_sz (op : Nat) : Nat := ([9, 9, 9, 0, 9, 9, 9, 9, 9, 9, 9, 9, 9, 9, 9, 9, 9, 9, 9, 9, 9, 1] : List Nat).getD op 9
def mz_ad (c : ms_N) : Prop := (mz_t 0 c.1 = true → c.2.1 < 8) ∧ (mz_t 1 c.1 = true → c.2.2.1 < 8) ∧ (mz_t 2 c.1 = true → c.2.2.2.1 < 4)
def mz_ls (tb : Nat → ms_N) (hi : Nat) (R : Nat → Nat → Prop) : Nat → Nat → Nat → Prop
  | 0, _, m => m = 0
  | c + 1, p, m => m = 0 ∨ (p < m ∧ m < hi ∧ mz_so (tb m).1 = 3 ∧ mz_ad (tb m) ∧ (mz_t 4 (tb m).1 = true → m < (tb m).2.2.2.2.2.1 ∧ R (mz_sx (tb m).1) (tb m).2.2.2.2.2.1) ∧ (m < (tb m).2.2.2.2.2.2.1 ∧ R 0 (tb m).2.2.2.2.2.2.1) ∧ (tb m).2.2.2.2.2.2.2.2.1 + (tb m).2.2.2.2.2.2.2.2.2 ≤ 4200 ∧ mz_ls tb hi R c m (tb m).2.2.2.2.2.2.2.1)
def mz_ok (tb : Nat → ms_N) (hi : Nat) : Nat → Nat → Nat → Prop
  | 0, _, _ => False
  | k + 1, s, m => m < hi ∧ mz_so (tb m).1 = s ∧ mz_ad (tb m) ∧ ((mz_t 4 (tb m).1 = true ∨ mz_t 5 (tb m).1 = true) → m < (tb m).2.2.2.2.2.1 ∧ mz_ok tb hi k (mz_sx (tb m).1) (tb m).2.2.2.2.2.1) ∧ (mz_t 6 (tb m).1 = true → mz_ls tb hi (mz_ok tb hi k) 8 m (tb m).2.2.2.2.2.1) ∧ ((mz_t 7 (tb m).1 = true ∨ mz_t 8 (tb m).1 = true ∨ mz_t 9 (tb m).1 = true) → m < (tb m).2.2.2.2.2.2.1 ∧ mz_ok tb hi k (mz_sy (tb m).1) (tb m).2.2.2.2.2.2.1) ∧ (mz_t 10 (tb m).1 = true → m < (tb m).2.2.2.2.2.2.2.1 ∧ mz_ok tb hi k (mz_sz (tb m).1) (tb m).2.2.2.2.2.2.2.1)
section
variable {z z1 z2 : mr_Z} {σ σ1 σ2 : ms_S} {m q lo hi N B : Nat} {v : Int32} {tb tb' : Nat → ms_N} {hi' : Nat}
theorem mr_kp.trans (h : mr_kp m z z1) (h' : mr_kp m z1 z2) : mr_kp m z z2 := ⟨fun q hq => (h'.1 q hq).trans (h.1 q hq), h'.2.trans h.2⟩
theorem mr_go.kp (h : mr_go z σ z1 σ1) (hm : m < σ.n) : mr_kp m z z1 := ⟨fun q hq => h.2.2.1 q m hq hm, h.2.2.2.1 m hm⟩
theorem mr_nr.kp {c : ms_N} (h : mr_nr z c m) (hk : mr_kp m z z1) : mr_nr z1 c m := by
  unfold mr_nr at *
  rw [hk.1 509 (by decide), hk.1 510 (by decide), hk.1 511 (by decide), hk.1 512 (by decide), hk.1 513 (by decide), hk.1 514 (by decide), hk.1 516 (by decide), hk.1 529 (by decide), hk.1 515 (by decide), hk.1 530 (by decide), hk.2]
  exact h
theorem mr_rg.to (h : mr_rg lo hi z σ) (hk : ∀ m, lo ≤ m → m < hi → mr_kp m z z1) (ht : ∀ m, lo ≤ m → m < hi → σ1.tb m = σ.tb m) : mr_rg lo hi z1 σ1 := by
  intro m h1 h2
  rw [ht m h1 h2]
  exact (h m h1 h2).kp (hk m h1 h2)
theorem mr_rg.go (h : mr_rg lo hi z σ) (hg : mr_go z σ z1 σ1) (hh : hi ≤ σ.n) : mr_rg lo hi z1 σ1 := h.to (fun m _ h2 => hg.kp (by omega)) (fun m _ h2 => hg.1.2.2.1 m (by omega))
theorem mz_ls.to {R R' : Nat → Nat → Prop} (hh : hi ≤ hi') (hR : ∀ s i, lo ≤ i → R s i → R' s i) (ht : ∀ i, lo ≤ i → i < hi → tb' i = tb i) : ∀ (c p i : Nat), lo ≤ p → mz_ls tb hi R c p i → mz_ls tb' hi' R' c p i := by
  intro c
  induction c with
  | zero => intro p i _ h; exact h
  | succ c ih =>
    intro p i hp h
    unfold mz_ls at h ⊢
    rcases h with h | ⟨h1, h2, h3, h4, h5, h6, h7, h8⟩
    · exact Or.inl h
    · rw [ht i (by omega) h2]
      refine Or.inr ⟨h1, by omega, h3, h4, fun a => ⟨(h5 a).1, hR _ _ (by have := (h5 a).1; omega) (h5 a).2⟩, ⟨h6.1, hR _ _ (by have := h6.1; omega) h6.2⟩, h7, ih _ _ (by omega) h8⟩
theorem mz_ok.to (hh : hi ≤ hi') (ht : ∀ i, lo ≤ i → i < hi → tb' i = tb i) : ∀ (k s i : Nat), lo ≤ i → mz_ok tb hi k s i → mz_ok tb' hi' k s i := by
  intro k
  induction k with
  | zero => intro s i _ h; exact h
  | succ k ih =>
    intro s i hi0 h
    unfold mz_ok at h ⊢
    obtain ⟨h1, h2, h3, h4, h5, h6, h7⟩ := h
    rw [ht i hi0 h1]
    refine ⟨by omega, h2, h3, fun a => ⟨(h4 a).1, ih _ _ (by have := (h4 a).1; omega) (h4 a).2⟩, fun a => mz_ls.to hh (fun s j hj => ih s j hj) ht _ _ _ hi0 (h5 a), fun a => ⟨(h6 a).1, ih _ _ (by have := (h6 a).1; omega) (h6 a).2⟩, fun a => ⟨(h7 a).1, ih _ _ (by have := (h7 a).1; omega) (h7 a).2⟩⟩
theorem mz_ok.go {k s i : Nat} (h : mz_ok σ.tb hi k s i) (hg : mr_go z σ z1 σ1) (hh : hi ≤ σ.n) (hh' : hi ≤ hi') : mz_ok σ1.tb hi' k s i := h.to hh' (lo := 0) (fun j _ hj => hg.1.2.2.1 j (by omega)) k s i (Nat.zero_le _)
theorem mz_ok.set {k s i : Nat} {c : ms_N} (h : mz_ok tb hi k s i) (hm : m < i) : mz_ok (va_up tb m c) hi k s i := h.to (Nat.le_refl _) (lo := i) (fun j hj _ => va_ne (by omega)) k s i (Nat.le_refl _)
/-- a node's field is written -/
def mr_w (q m : Nat) (v : Int32) (z : mr_Z) : mr_Z := (va_up z.f q (.inl (0, 800, .inl (upd (z.I q) m v))), z.X, z.Y, va_up z.I q (upd (z.I q) m v), z.J)
theorem mr_w_at : (mr_w q m v z).I q m = v := by
  show va_up z.I q (upd (z.I q) m v) q m = v
  rw [va_eq, mu_eq]
theorem mr_w_ne {q' i : Nat} (h : ¬ (q' = q ∧ i = m)) : (mr_w q m v z).I q' i = z.I q' i := by
  show va_up z.I q (upd (z.I q) m v) q' i = z.I q' i
  by_cases e : q' = q
  · subst e
    rw [va_eq]
    exact mu_ne (fun e => h ⟨rfl, e⟩)
  · rw [va_ne e]
end
theorem mr_nodes : ∀ q ∈ [509, 510, 511, 512, 513, 514, 515, 516, 529, 530], (q, 800) ∈ mr_ai ∧ (q < 520 ∨ 528 < q) ∧ 509 ≤ q ∧ q ≤ 530 := by decide +kernel
section
variable {d n sl k m q : Nat} {z : mr_Z} {σ : ms_S} {s : Value} {v : Int32} {Q : (Option Value ⊕ Nat) → mi_H → Prop} {g : Nat → Int32} {L : Nat}
theorem mr_w_st (hz : mr_st n s g L z σ k) (hq : q ∈ [509, 510, 511, 512, 513, 514, 515, 516, 529, 530]) : mr_st n s g L (mr_w q m v z) σ k := by
  obtain ⟨h1, h2, h3, h4⟩ := mr_nodes q hq
  obtain ⟨hB, hK, hT, h3', h21, h22, h23, ⟨h24, hcp, hP⟩, ⟨h25, hct, hTt⟩, ⟨h27, hcx, hN⟩, h26, hch, hH⟩ := hz
  have e : ∀ q', (q' < 509 ∨ (520 ≤ q' ∧ q' ≤ 528)) → (mr_w q m v z).I q' = z.I q' := fun q' hq' => va_ne (by omega)
  refine ⟨hB.i h1, hK.to (fun p hp => va_ne (by omega)), ⟨(e _ (by decide)).trans hT.1, hT.2⟩, h3', h21, h22, h23, ⟨h24, hcp, fun i hi => ?_⟩, ⟨h25, hct, fun i hi => ?_⟩, ⟨h27, hcx, fun i hi => ?_⟩, h26, hch, fun i hi => ?_⟩
  · rw [e _ (by decide), e _ (by decide)]
    exact hP i hi
  · rw [e _ (by decide), e _ (by decide)]
    exact hTt i hi
  · rw [e _ (by decide), e _ (by decide)]
    exact hN i hi
  · rw [e _ (by decide), e _ (by decide), e _ (by decide)]
    exact hH i hi
theorem mr_w_rf (hq : q ∈ [509, 510, 511, 512, 513, 514, 515, 516, 529, 530]) : mr_rf z (mr_w q m v z) := by
  obtain ⟨h1, h2, h3, h4⟩ := mr_nodes q hq
  exact ⟨fun _ _ => rfl, fun _ _ => rfl, fun p hp => va_ne (by omega), fun _ _ => rfl, fun p hp => va_ne (by have := mr_ai_far _ h1; unfold mr_far at hp; omega)⟩
theorem mr_w_go (hq : q ∈ [509, 510, 511, 512, 513, 514, 515, 516, 529, 530]) (hm : σ.n ≤ m) : mr_go z σ (mr_w q m v z) σ :=
  ⟨⟨Nat.le_refl _, Nat.le_refl _, fun _ _ => rfl, fun _ _ => rfl⟩, mr_w_rf hq, fun p i _ hi => mr_w_ne (by omega), fun _ _ => rfl, fun _ _ => ⟨rfl, rfl⟩⟩
theorem mr_w_kp {i : Nat} (hi : ¬ i = m) : mr_kp i z (mr_w q m v z) := ⟨fun p _ => mr_w_ne (fun e => hi e.2), rfl⟩
theorem mr_w_rg {lo hi : Nat} (h : mr_rg lo hi z σ) (hm : m < lo) : mr_rg lo hi (mr_w q m v z) σ := h.to (fun i h1 _ => mr_w_kp (by omega)) (fun _ _ _ => rfl)
theorem mr_w_er {z' : mr_Z} {w : Nat} (he : mr_er n s z z' w) (hq : q ∈ [509, 510, 511, 512, 513, 514, 515, 516, 529, 530]) : mr_er n s z (mr_w q m v z') w := ⟨he.1.i (mr_nodes q hq).1, he.2.1, he.2.2.trans (mr_w_rf hq)⟩
/-- a field of the object is written -/
def mr_x22 (v : Int32) (z : mr_Z) (s : Value) : mr_Z := (va_up z.f 505 (.inr (12, (mL 88 (mr_S z.X z.Y s)).set 22 (.int v))), va_up z.X 22 v, z.Y, z.I, z.J)
theorem mr_x22_rf : mr_rf z (mr_x22 v z s) := ⟨fun j hj => va_ne (by omega), fun _ _ => rfl, fun _ _ => rfl, fun _ _ => rfl, fun q hq => va_ne (by unfold mr_far at hq; omega)⟩
theorem mr_x22_st {j : Nat} (hz : mr_st n s g L z σ k) (hv : v = Int32.ofNat (100 - j)) (hj : j ≤ 100) : mr_st n s g L (mr_x22 v z s) σ j := by
  obtain ⟨hB, hK, hT, h3', h21, h22, h23, ⟨h24, hcp, hP⟩, ⟨h25, hct, hTt⟩, ⟨h27, hcx, hN⟩, h26, hch, hH⟩ := hz
  exact ⟨hB.x (k := 22) rfl, hK.to (fun q hq => va_ne (by omega)), hT, h3', h21, ⟨hv, hj⟩, h23, ⟨h24, hcp, hP⟩, ⟨h25, hct, hTt⟩, ⟨h27, hcx, hN⟩, h26, hch, hH⟩
theorem mr_x22_go : mr_go z σ (mr_x22 v z s) σ := ⟨⟨Nat.le_refl _, Nat.le_refl _, fun _ _ => rfl, fun _ _ => rfl⟩, mr_x22_rf, fun _ _ _ _ => rfl, fun _ _ => rfl, fun _ _ => ⟨rfl, rfl⟩⟩
theorem mr_x22_er {z' : mr_Z} {w : Nat} (he : mr_er n s z z' w) : mr_er n s z (mr_x22 v z' s) w := ⟨he.1.x (k := 22) rfl, he.2.1, he.2.2.trans mr_x22_rf⟩
theorem sq_open (hn : 575 ≤ n) (hz : mr_st n s g L z σ k) (k1 : ∀ j z', k = j + 1 → mr_st n s g L z' σ j → mr_go z σ z' σ → z'.I = z.I → z'.J = z.J → z'.Y = z.Y → Q (.inl (some (.int 1))) (n, sl, z'.f)) (k0 : ∀ z', k = 0 → mr_er n s z z' σ.t.a → Q (.inl (some (.int 0))) (n, sl, z'.f)) : mi_W (d + 1) 154 0 (mi_en 1 [.ref 505]) [] (n, sl, z.f) Q := by
  have h3 := hz.sg
  have h22 := hz.2.2.2.2.2.1
  have hx9 : z.X 9 = _ := hz.2.2.1.2.2.2.2.1
  refine sp_open (g := 100 - k) hn hz.1 (by omega) h22.1 (fun hlt f' hB' hf' => ?_) (fun hge f' X' hB' hX' hf' => ?_)
  · obtain ⟨j, rfl⟩ : ∃ j, k = j + 1 := ⟨k - 1, by omega⟩
    obtain ⟨hB, hK, hT, h3', h21, h22, h23, ⟨h24, hcp, hP⟩, ⟨h25, hct, hTt⟩, ⟨h27, hcx, hN⟩, h26, hch, hH⟩ := hz
    have e : Int32.ofNat (100 - (j + 1) + 1) = Int32.ofNat (100 - j) := by rw [show 100 - (j + 1) + 1 = 100 - j by omega]
    exact k1 j (f', va_up z.X 22 (Int32.ofNat (100 - (j + 1) + 1)), z.Y, z.I, z.J) rfl ⟨hB', hK.to (fun q hq => hf' q (by omega)), hT, h3', h21, ⟨e, by omega⟩, h23, ⟨h24, hcp, hP⟩, ⟨h25, hct, hTt⟩, ⟨h27, hcx, hN⟩, h26, hch, hH⟩ ⟨⟨Nat.le_refl _, Nat.le_refl _, fun _ _ => rfl, fun _ _ => rfl⟩, ⟨fun j hj => va_ne (by omega), fun _ _ => rfl, fun _ _ => rfl, fun _ _ => rfl, fun q hq => hf' q (by unfold mr_far at hq; omega)⟩, fun _ _ _ _ => rfl, fun _ _ => rfl, fun _ _ => ⟨rfl, rfl⟩⟩ rfl rfl rfl
  · rcases hX' with ⟨_, h⟩ | hX'
    · exact absurd h h3
    · refine k0 (f', X', z.Y, z.I, z.J) (by omega) ⟨hB', ?_, ⟨fun j hj => ?_, fun _ _ => rfl, fun _ _ => rfl, fun _ _ => rfl, fun q hq => hf' q (by unfold mr_far at hq; omega)⟩⟩
      · show X' 3 = _
        rw [hX', va_eq]
        exact hx9
      · show X' j = _
        rw [hX', va_ne (by omega), va_ne (by omega)]
theorem sq_node {w : Int32} (hn : 575 ≤ n) (hz : mr_st n s g L z σ k) (k1 : ∀ z', ¬ σ.n = 800 → mr_st n s g L z' σ.add k → mr_go z σ z' σ.add → z'.I 509 σ.n = w → z'.J = z.J → z'.Y = z.Y → Q (.inl (some (.int (Int32.ofNat σ.n)))) (n, sl, z'.f)) (k0 : ∀ z', σ.n = 800 → mr_er n s z z' σ.t.a → Q (.inl (some (.int (-1)))) (n, sl, z'.f)) : mi_W (d + 1) 157 0 (mi_en 2 [.ref 505, .int w]) [] (n, sl, z.f) Q := by
  have h3 := hz.sg
  have h21 := hz.2.2.2.2.1
  have hx9 : z.X 9 = _ := hz.2.2.1.2.2.2.2.1
  refine sp_node hn hz.1 h21.2 h21.1 (fun hlt f' hB' hf' => ?_) (fun hge f' X' hB' hX' hf' => ?_)
  · obtain ⟨hB, hK, hT, h3', h21, h22, h23, ⟨h24, hcp, hP⟩, ⟨h25, hct, hTt⟩, ⟨h27, hcx, hN⟩, h26, hch, hH⟩ := hz
    refine k1 (f', va_up z.X 21 (Int32.ofNat (σ.n + 1)), z.Y, va_up z.I 509 (upd (z.I 509) σ.n w), z.J) (by omega) ⟨hB', hK.to (fun q hq => hf' q (by omega) (by omega)), hT, h3', ⟨rfl, ?_⟩, h22, h23, ⟨h24, hcp, hP⟩, ⟨h25, hct, hTt⟩, ⟨h27, hcx, hN⟩, h26, hch, hH⟩ ⟨⟨?_, Nat.le_refl _, fun _ _ => rfl, fun _ _ => rfl⟩, ⟨fun j hj => va_ne (by omega), fun _ _ => rfl, fun q hq => va_ne (by omega), fun _ _ => rfl, fun q hq => hf' q (by unfold mr_far at hq; omega) (by unfold mr_far at hq; omega)⟩, fun q i _ hi => ?_, fun _ _ => rfl, fun _ _ => ⟨rfl, rfl⟩⟩ ?_ rfl rfl
    · show σ.n + 1 ≤ 800
      omega
    · show σ.n ≤ σ.n + 1
      omega
    · show va_up z.I 509 (upd (z.I 509) σ.n w) q i = z.I q i
      by_cases e : q = 509
      · subst e
        rw [va_eq]
        exact mu_ne (by omega)
      · rw [va_ne e]
    · show va_up z.I 509 (upd (z.I 509) σ.n w) 509 σ.n = w
      rw [va_eq, mu_eq]
  · rcases hX' with ⟨_, h⟩ | hX'
    · exact absurd h h3
    · refine k0 (f', X', z.Y, z.I, z.J) (by omega) ⟨hB', ?_, ⟨fun j hj => ?_, fun _ _ => rfl, fun _ _ => rfl, fun _ _ => rfl, fun q hq => hf' q (by unfold mr_far at hq; omega)⟩⟩
      · show X' 3 = _
        rw [hX', va_eq]
        exact hx9
      · show X' j = _
        rw [hX', va_ne (by omega)]
end
