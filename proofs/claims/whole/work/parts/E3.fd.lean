/-! the second object: values and truths -/
def gRk (n : Nat) (b : mg_A) (p N : Nat) (tb : Nat → ms_N) (S : mv_S) (lo hi : Int64) : Prop := mg_S b p S ∧ b.s = .ref p ∧ p + 5 < n ∧ (b.J 505 44 = lo ∧ b.J 505 45 = hi) ∧ N ≤ 800 ∧ (∀ m, m < N → gRow b (tb m) m) ∧ mv_ok S ∧ mv_tok tb
def gIV (n sl : Nat) (f0 : Nat → mi_C) (b : mg_A) (N : Nat) (tb : Nat → ms_N) (S : mv_S) (lo hi : Int64) (k : Nat) : Prop := ∀ (m d : Nat) (l : Bool) (Q : (Option Value ⊕ Nat) → mi_H → Prop), k + 2 ≤ d → mz_ok tb N k 1 m → (∀ r l', cvo id ((mv_E tb S lo hi k).1 m) l r l' → Q (.inl (some (.long r))) (n, sl, hd (gvL b l') f0)) → mi_W d 177 0 (mi_en 2 [.ref 505, .int (Int32.ofNat m)]) [] (n, sl, hd (gvL b l) f0) Q
def gIT (n sl : Nat) (f0 : Nat → mi_C) (b : mg_A) (N : Nat) (tb : Nat → ms_N) (S : mv_S) (lo hi : Int64) (k : Nat) : Prop := ∀ (m d : Nat) (l : Bool) (Q : (Option Value ⊕ Nat) → mi_H → Prop), k + 2 ≤ d → mz_ok tb N k 2 m → (∀ r l', (r = 0 ∨ r = 1) → cvo cvt ((mv_E tb S lo hi k).2 m) l r l' → Q (.inl (some (.int r))) (n, sl, hd (gvL b l') f0)) → mi_W d 179 0 (mi_en 6 [.ref 505, .int (Int32.ofNat m)]) [] (n, sl, hd (gvL b l) f0) Q
section
variable {d e n sl N : Nat} {b : mg_A} {f0 : Nat → mi_C} {Q : (Option Value ⊕ Nat) → mi_H → Prop} {p k m t : Nat} {tb : Nat → ms_N} {S : mv_S} {lo hi : Int64}
theorem cvo_b {o1 o2 : Option Int64} {r1 r2 : Int64} {l1 : Bool} (c1 : cvo id o1 false r1 l1) (c2 : cvo id o2 l1 r2 false) : o1 = some r1 ∧ o2 = some r2 := by
  cases o1 with
  | none =>
    have h1 : l1 = true := c1
    subst h1
    have h2 : false = true := c2
    cases h2
  | some u =>
    have h1 : l1 = false ∧ r1 = u := c1
    obtain ⟨h1, rfl⟩ := h1
    subst h1
    cases o2 with
    | none =>
      have h2 : false = true := c2
      cases h2
    | some w =>
      have h2 : false = false ∧ r2 = w := c2
      obtain ⟨-, rfl⟩ := h2
      exact ⟨rfl, rfl⟩
theorem g_vl (hn : 575 ≤ n) (K : Q (.inl (some (.long 0))) (n, sl, hd (gvL b true) f0)) : mi_W d 177 0 (mi_en 2 [.ref 505, .int (Int32.ofNat m)]) [] (n, sl, hd (gvL b true) f0) Q := by
  refine b_177_0 _ _ _ (by first | (exact hd_9) | assumption) (by omega) (by exact mL_get (by decide)) ?_ ?_
  · intro z0
    exact absurd z0 gvL_46t
  · intro z0
    refine b_177_7 _ _ _ ?_
    exact K
theorem g_tl (hn : 575 ≤ n) (K : Q (.inl (some (.int 0))) (n, sl, hd (gvL b true) f0)) : mi_W d 179 0 (mi_en 6 [.ref 505, .int (Int32.ofNat m)]) [] (n, sl, hd (gvL b true) f0) Q := by
  refine b_179_0 _ _ _ (by first | (exact hd_9) | assumption) (by omega) (by exact mL_get (by decide)) ?_ ?_
  · intro z0
    exact absurd z0 gvL_46t
  · intro z0
    refine b_179_7 _ _ _ ?_
    exact K
theorem g_v10 {A B D x y z : Nat} {v : Int64} {q : Nat × Nat} (hn : 575 ≤ n) (hR : gRk n b p N tb S lo hi) (hm : m < N) (IV : gIV n sl f0 b N tb S lo hi k) (IT : gIT n sl f0 b N tb S lo hi k) (he : k ≤ e) (hcm : tb m = (10, A, B, D, v, x, y, z, q)) (hok : mz_ok tb N (k + 1) 1 m) (K : ∀ r l', cvo id (mv_v S lo hi (mv_E tb S lo hi k) (10, A, B, D, v, x, y, z, q)) false r l' → Q (.inl (some (.long r))) (n, sl, hd (gvL b l') f0)) : mi_W (e + 3) 177 0 (mi_en 2 [.ref 505, .int (Int32.ofNat m)]) [] (n, sl, hd (gvL b false) f0) Q := by
  obtain ⟨hS, hps, hpn, ⟨hlo, hhi⟩, hN8, hrg, hSo, hto⟩ := hR
  have hpo := hS.1
  obtain ⟨-, -, had, hx, -, hy, hz⟩ := hok
  have hrow := hrg m hm
  rw [hcm] at had hx hy hz hrow
  unfold mz_ad at had
  unfold gRow at hrow
  dsimp only at had hx hy hz hrow
  obtain ⟨w0, w1, w2, w3, w4, w5, w6, -, w8, w9, w10, w11, -⟩ := hrow
  have hix := ix_of (w := m) (m := 800) (by omega) (by omega)
  have h0 : ∀ l, (gvL b l).I 509 m = 10 := fun _ => w0
  refine b_177_0 _ _ _ (by first | (exact hd_9) | assumption) (by omega) (by exact mL_get (by decide)) ?_ ?_
  · intro z0
    refine b_177_9 (t12 := 76) _ _ _ _ _ _ (by first | (exact hd_9) | assumption) (by omega) (by exact mL_get (by decide)) (by first | (exact hd_I (by omega) rfl) | assumption) (Or.inl (by omega)) (by first | assumption | (exact ix_of (by omega) (by omega)) | (exact ⟨by decide, rfl, by decide⟩)) (by rw [h0]; decide +kernel) ?_
    refine b_177_76 _ _ _ _ _ _ (by first | (exact hd_9) | assumption) (by omega) (by exact mL_get (by decide)) (by first | (exact hd_J (by omega) rfl) | (exact hd_L1 (by assumption)) | (exact hd_L2 (by assumption)) | (exact hd_L3 (by assumption)) | assumption) (by omega) (by first | assumption | (exact ix_of (by omega) (by omega)) | (exact ⟨by decide, rfl, by decide⟩)) ?_
    exact K _ false ⟨rfl, w4 (by decide)⟩
  · intro z0
    exact absurd rfl z0
theorem g_v11 {A B D x y z : Nat} {v : Int64} {q : Nat × Nat} (hn : 575 ≤ n) (hR : gRk n b p N tb S lo hi) (hm : m < N) (IV : gIV n sl f0 b N tb S lo hi k) (IT : gIT n sl f0 b N tb S lo hi k) (he : k ≤ e) (hcm : tb m = (11, A, B, D, v, x, y, z, q)) (hok : mz_ok tb N (k + 1) 1 m) (K : ∀ r l', cvo id (mv_v S lo hi (mv_E tb S lo hi k) (11, A, B, D, v, x, y, z, q)) false r l' → Q (.inl (some (.long r))) (n, sl, hd (gvL b l') f0)) : mi_W (e + 3) 177 0 (mi_en 2 [.ref 505, .int (Int32.ofNat m)]) [] (n, sl, hd (gvL b false) f0) Q := by
  obtain ⟨hS, hps, hpn, ⟨hlo, hhi⟩, hN8, hrg, hSo, hto⟩ := hR
  have hpo := hS.1
  obtain ⟨-, -, had, hx, -, hy, hz⟩ := hok
  have hrow := hrg m hm
  rw [hcm] at had hx hy hz hrow
  unfold mz_ad at had
  unfold gRow at hrow
  dsimp only at had hx hy hz hrow
  obtain ⟨w0, w1, w2, w3, w4, w5, w6, -, w8, w9, w10, w11, -⟩ := hrow
  have hix := ix_of (w := m) (m := 800) (by omega) (by omega)
  have h0 : ∀ l, (gvL b l).I 509 m = 11 := fun _ => w0
  have hA : A < 8 := had.1 (by decide)
  have h4 : (gvL b false).I 510 m = Int32.ofNat A := w1 (by decide)
  have hD : D < 4 := had.2.2 (by decide)
  have h5 : (gvL b false).I 512 m = Int32.ofNat D := w3 (by decide)
  have hi4 : mi_ix (4 * (gvL b false).I 510 m + (gvL b false).I 512 m) 32 (A * 4 + D) := by
    rw [h4, h5, show (4 : Int32) = Int32.ofNat 4 from rfl, of_mul, of_add', Nat.mul_comm]
    exact ix_of (by omega) (by omega)
  refine b_177_0 _ _ _ (by first | (exact hd_9) | assumption) (by omega) (by exact mL_get (by decide)) ?_ ?_
  · intro z0
    refine b_177_9 (t12 := 83) _ _ _ _ _ _ (by first | (exact hd_9) | assumption) (by omega) (by exact mL_get (by decide)) (by first | (exact hd_I (by omega) rfl) | assumption) (Or.inl (by omega)) (by first | assumption | (exact ix_of (by omega) (by omega)) | (exact ⟨by decide, rfl, by decide⟩)) (by rw [h0]; decide +kernel) ?_
    refine b_177_83 _ _ _ _ _ _ _ _ _ _ _ _ (by first | (exact hd_9) | assumption) (by omega) (by exact (mL_get (by decide)).trans (congrArg some (by assumption))) (by first | (exact hd_8 (by assumption)) | assumption) (by omega) (by exact rfl) (by first | (exact hd_9) | assumption) (by omega) (by exact mL_get (by decide)) (by first | (exact hd_I (by omega) rfl) | assumption) (Or.inl (by omega)) (by first | assumption | (exact ix_of (by omega) (by omega)) | (exact ⟨by decide, rfl, by decide⟩)) (by first | (exact hd_9) | assumption) (by omega) (by exact mL_get (by decide)) (by first | (exact hd_I (by omega) rfl) | assumption) (Or.inl (by omega)) (by first | assumption | (exact ix_of (by omega) (by omega)) | (exact ⟨by decide, rfl, by decide⟩)) (by first | (exact hd_J (by omega) rfl) | (exact hd_L1 (by assumption)) | (exact hd_L2 (by assumption)) | (exact hd_L3 (by assumption)) | assumption) (by omega) (by first | assumption | (exact ix_of (by omega) (by omega)) | (exact ⟨by decide, rfl, by decide⟩)) ?_
    exact K _ false ⟨rfl, hS.2.2.2.1 _ (by omega)⟩
  · intro z0
    exact absurd rfl z0
theorem g_v12 {A B D x y z : Nat} {v : Int64} {q : Nat × Nat} (hn : 575 ≤ n) (hR : gRk n b p N tb S lo hi) (hm : m < N) (IV : gIV n sl f0 b N tb S lo hi k) (IT : gIT n sl f0 b N tb S lo hi k) (he : k ≤ e) (hcm : tb m = (12, A, B, D, v, x, y, z, q)) (hok : mz_ok tb N (k + 1) 1 m) (K : ∀ r l', cvo id (mv_v S lo hi (mv_E tb S lo hi k) (12, A, B, D, v, x, y, z, q)) false r l' → Q (.inl (some (.long r))) (n, sl, hd (gvL b l') f0)) : mi_W (e + 3) 177 0 (mi_en 2 [.ref 505, .int (Int32.ofNat m)]) [] (n, sl, hd (gvL b false) f0) Q := by
  obtain ⟨hS, hps, hpn, ⟨hlo, hhi⟩, hN8, hrg, hSo, hto⟩ := hR
  have hpo := hS.1
  obtain ⟨-, -, had, hx, -, hy, hz⟩ := hok
  have hrow := hrg m hm
  rw [hcm] at had hx hy hz hrow
  unfold mz_ad at had
  unfold gRow at hrow
  dsimp only at had hx hy hz hrow
  obtain ⟨w0, w1, w2, w3, w4, w5, w6, -, w8, w9, w10, w11, -⟩ := hrow
  have hix := ix_of (w := m) (m := 800) (by omega) (by omega)
  have h0 : ∀ l, (gvL b l).I 509 m = 12 := fun _ => w0
  have hxk : mz_ok tb N k 1 x := (hx (by decide)).2
  have ha : ∀ l, (gvL b l).I 510 m = Int32.ofNat x := fun _ => w6 (by decide)
  refine b_177_0 _ _ _ (by first | (exact hd_9) | assumption) (by omega) (by exact mL_get (by decide)) ?_ ?_
  · intro z0
    refine b_177_9 (t12 := 107) _ _ _ _ _ _ (by first | (exact hd_9) | assumption) (by omega) (by exact mL_get (by decide)) (by first | (exact hd_I (by omega) rfl) | assumption) (Or.inl (by omega)) (by first | assumption | (exact ix_of (by omega) (by omega)) | (exact ⟨by decide, rfl, by decide⟩)) (by rw [h0]; decide +kernel) ?_
    refine b_177_107 _ _ _ _ _ _ (by first | (exact hd_9) | assumption) (by omega) (by exact mL_get (by decide)) (by first | (exact hd_I (by omega) rfl) | assumption) (Or.inl (by omega)) (by first | assumption | (exact ix_of (by omega) (by omega)) | (exact ⟨by decide, rfl, by decide⟩)) (by first | (exact hd_9) | assumption) (by omega) ?_
    rw [ha]
    refine IV x _ false _ (by omega) hxk (fun r1 l1 c1 => ?_)
    refine b_177_118 _ _ _ (by first | (exact hd_9) | assumption) (by omega) ?_
    refine g_fit hn (fun l2 c2 => ?_)
    refine b_177_122 _ _ _ ?_
    refine K _ _ ?_
    show cvo id (((mv_E tb S lo hi k).1 x).map (fun v => -v)) false (-r1) l2
    cases hx1 : (mv_E tb S lo hi k).1 x with
    | none =>
      rw [hx1] at c1
      have h1 : l1 = true := c1
      subst h1
      exact c2
    | some u =>
      have hin := mv_neg_in (mv_E_in hSo hto k x u hx1)
      rw [hx1] at c1
      have h1 : l1 = false ∧ r1 = u := c1
      obtain ⟨h1, rfl⟩ := h1
      subst h1
      unfold mv_fit at c2
      rw [if_pos hin] at c2
      exact ⟨c2.1, rfl⟩
  · intro z0
    exact absurd rfl z0
theorem g_v13 {A B D x y z : Nat} {v : Int64} {q : Nat × Nat} (hn : 575 ≤ n) (hR : gRk n b p N tb S lo hi) (hm : m < N) (IV : gIV n sl f0 b N tb S lo hi k) (IT : gIT n sl f0 b N tb S lo hi k) (he : k ≤ e) (hcm : tb m = (13, A, B, D, v, x, y, z, q)) (hok : mz_ok tb N (k + 1) 1 m) (K : ∀ r l', cvo id (mv_v S lo hi (mv_E tb S lo hi k) (13, A, B, D, v, x, y, z, q)) false r l' → Q (.inl (some (.long r))) (n, sl, hd (gvL b l') f0)) : mi_W (e + 3) 177 0 (mi_en 2 [.ref 505, .int (Int32.ofNat m)]) [] (n, sl, hd (gvL b false) f0) Q := by
  obtain ⟨hS, hps, hpn, ⟨hlo, hhi⟩, hN8, hrg, hSo, hto⟩ := hR
  have hpo := hS.1
  obtain ⟨-, -, had, hx, -, hy, hz⟩ := hok
  have hrow := hrg m hm
  rw [hcm] at had hx hy hz hrow
  unfold mz_ad at had
  unfold gRow at hrow
  dsimp only at had hx hy hz hrow
  obtain ⟨w0, w1, w2, w3, w4, w5, w6, -, w8, w9, w10, w11, -⟩ := hrow
  have hix := ix_of (w := m) (m := 800) (by omega) (by omega)
  have h0 : ∀ l, (gvL b l).I 509 m = 13 := fun _ => w0
  have hxk : mz_ok tb N k 1 x := (hx (by decide)).2
  have ha : ∀ l, (gvL b l).I 510 m = Int32.ofNat x := fun _ => w6 (by decide)
  have hyk : mz_ok tb N k 1 y := (hy (by decide)).2
  have hb : ∀ l, (gvL b l).I 511 m = Int32.ofNat y := fun _ => w10 (by decide)
  refine b_177_0 _ _ _ (by first | (exact hd_9) | assumption) (by omega) (by exact mL_get (by decide)) ?_ ?_
  · intro z0
    refine b_177_9 (t12 := 250) _ _ _ _ _ _ (by first | (exact hd_9) | assumption) (by omega) (by exact mL_get (by decide)) (by first | (exact hd_I (by omega) rfl) | assumption) (Or.inl (by omega)) (by first | assumption | (exact ix_of (by omega) (by omega)) | (exact ⟨by decide, rfl, by decide⟩)) (by rw [h0]; decide +kernel) ?_
    refine b_177_250 _ _ _ _ _ _ _ _ _ (by first | (exact hd_9) | assumption) (by omega) (by exact mL_get (by decide)) (by first | (exact hd_I (by omega) rfl) | assumption) (Or.inl (by omega)) (by first | assumption | (exact ix_of (by omega) (by omega)) | (exact ⟨by decide, rfl, by decide⟩)) (by first | (exact hd_9) | assumption) (by omega) (by exact mL_get (by decide)) (by first | (exact hd_I (by omega) rfl) | assumption) (Or.inl (by omega)) (by first | assumption | (exact ix_of (by omega) (by omega)) | (exact ⟨by decide, rfl, by decide⟩)) (by first | (exact hd_9) | assumption) (by omega) ?_
    rw [ha]
    refine IV x _ false _ (by omega) hxk (fun r1 l1 c1 => ?_)
    refine b_177_267 _ _ _ _ _ _ (by first | (exact hd_9) | assumption) (by omega) (by exact mL_get (by decide)) (by first | (exact hd_I (by omega) rfl) | assumption) (Or.inl (by omega)) (by first | assumption | (exact ix_of (by omega) (by omega)) | (exact ⟨by decide, rfl, by decide⟩)) (by first | (exact hd_9) | assumption) (by omega) ?_
    rw [hb]
    refine IV y _ l1 _ (by omega) hyk (fun r2 l2 c2 => ?_)
    refine b_177_277 _ _ _ (by first | (exact hd_9) | assumption) (by omega) ?_
    rw [h0 false]
    have K3 : ∀ r3 l3, (l2 = true → l3 = true) → (l2 = false → cvo id (mv_two 13 r1 r2) false r3 l3) → Q (.inl (some (.long r3))) (n, sl, hd (gvL b l3) f0) := by
      intro r3 l3 t3 c3
      refine K _ _ (cvo_2 (F := fun u w => mv_two 13 u w) c1 c2 t3 (fun u w _ _ e1 e2 hl => ?_))
      subst e1 e2
      rw [hl]
      exact c3 hl
    cases l2 with
    | true =>
      refine g_two_t hn ?_
      refine b_177_280 _ _ _ ?_
      exact K3 0 true (fun _ => rfl) (fun h => Bool.noConfusion h)
    | false =>
      have hbb := cvo_b c1 c2
      refine g_two_13 hn (mv_E_in hSo hto k x _ hbb.1) (mv_E_in hSo hto k y _ hbb.2) (fun r3 l3 c3 => ?_)
      refine b_177_280 _ _ _ ?_
      exact K3 r3 l3 (fun h => Bool.noConfusion h) (fun _ => c3)
  · intro z0
    exact absurd rfl z0
theorem g_v14 {A B D x y z : Nat} {v : Int64} {q : Nat × Nat} (hn : 575 ≤ n) (hR : gRk n b p N tb S lo hi) (hm : m < N) (IV : gIV n sl f0 b N tb S lo hi k) (IT : gIT n sl f0 b N tb S lo hi k) (he : k ≤ e) (hcm : tb m = (14, A, B, D, v, x, y, z, q)) (hok : mz_ok tb N (k + 1) 1 m) (K : ∀ r l', cvo id (mv_v S lo hi (mv_E tb S lo hi k) (14, A, B, D, v, x, y, z, q)) false r l' → Q (.inl (some (.long r))) (n, sl, hd (gvL b l') f0)) : mi_W (e + 3) 177 0 (mi_en 2 [.ref 505, .int (Int32.ofNat m)]) [] (n, sl, hd (gvL b false) f0) Q := by
  obtain ⟨hS, hps, hpn, ⟨hlo, hhi⟩, hN8, hrg, hSo, hto⟩ := hR
  have hpo := hS.1
  obtain ⟨-, -, had, hx, -, hy, hz⟩ := hok
  have hrow := hrg m hm
  rw [hcm] at had hx hy hz hrow
  unfold mz_ad at had
  unfold gRow at hrow
  dsimp only at had hx hy hz hrow
  obtain ⟨w0, w1, w2, w3, w4, w5, w6, -, w8, w9, w10, w11, -⟩ := hrow
  have hix := ix_of (w := m) (m := 800) (by omega) (by omega)
  have h0 : ∀ l, (gvL b l).I 509 m = 14 := fun _ => w0
  have hxk : mz_ok tb N k 1 x := (hx (by decide)).2
  have ha : ∀ l, (gvL b l).I 510 m = Int32.ofNat x := fun _ => w6 (by decide)
  have hyk : mz_ok tb N k 1 y := (hy (by decide)).2
  have hb : ∀ l, (gvL b l).I 511 m = Int32.ofNat y := fun _ => w10 (by decide)
  refine b_177_0 _ _ _ (by first | (exact hd_9) | assumption) (by omega) (by exact mL_get (by decide)) ?_ ?_
  · intro z0
    refine b_177_9 (t12 := 250) _ _ _ _ _ _ (by first | (exact hd_9) | assumption) (by omega) (by exact mL_get (by decide)) (by first | (exact hd_I (by omega) rfl) | assumption) (Or.inl (by omega)) (by first | assumption | (exact ix_of (by omega) (by omega)) | (exact ⟨by decide, rfl, by decide⟩)) (by rw [h0]; decide +kernel) ?_
    refine b_177_250 _ _ _ _ _ _ _ _ _ (by first | (exact hd_9) | assumption) (by omega) (by exact mL_get (by decide)) (by first | (exact hd_I (by omega) rfl) | assumption) (Or.inl (by omega)) (by first | assumption | (exact ix_of (by omega) (by omega)) | (exact ⟨by decide, rfl, by decide⟩)) (by first | (exact hd_9) | assumption) (by omega) (by exact mL_get (by decide)) (by first | (exact hd_I (by omega) rfl) | assumption) (Or.inl (by omega)) (by first | assumption | (exact ix_of (by omega) (by omega)) | (exact ⟨by decide, rfl, by decide⟩)) (by first | (exact hd_9) | assumption) (by omega) ?_
    rw [ha]
    refine IV x _ false _ (by omega) hxk (fun r1 l1 c1 => ?_)
    refine b_177_267 _ _ _ _ _ _ (by first | (exact hd_9) | assumption) (by omega) (by exact mL_get (by decide)) (by first | (exact hd_I (by omega) rfl) | assumption) (Or.inl (by omega)) (by first | assumption | (exact ix_of (by omega) (by omega)) | (exact ⟨by decide, rfl, by decide⟩)) (by first | (exact hd_9) | assumption) (by omega) ?_
    rw [hb]
    refine IV y _ l1 _ (by omega) hyk (fun r2 l2 c2 => ?_)
    refine b_177_277 _ _ _ (by first | (exact hd_9) | assumption) (by omega) ?_
    rw [h0 false]
    have K3 : ∀ r3 l3, (l2 = true → l3 = true) → (l2 = false → cvo id (mv_two 14 r1 r2) false r3 l3) → Q (.inl (some (.long r3))) (n, sl, hd (gvL b l3) f0) := by
      intro r3 l3 t3 c3
      refine K _ _ (cvo_2 (F := fun u w => mv_two 14 u w) c1 c2 t3 (fun u w _ _ e1 e2 hl => ?_))
      subst e1 e2
      rw [hl]
      exact c3 hl
    cases l2 with
    | true =>
      refine g_two_t hn ?_
      refine b_177_280 _ _ _ ?_
      exact K3 0 true (fun _ => rfl) (fun h => Bool.noConfusion h)
    | false =>
      have hbb := cvo_b c1 c2
      refine g_two_14 hn (mv_E_in hSo hto k x _ hbb.1) (mv_E_in hSo hto k y _ hbb.2) (fun r3 l3 c3 => ?_)
      refine b_177_280 _ _ _ ?_
      exact K3 r3 l3 (fun h => Bool.noConfusion h) (fun _ => c3)
  · intro z0
    exact absurd rfl z0
theorem g_v15 {A B D x y z : Nat} {v : Int64} {q : Nat × Nat} (hn : 575 ≤ n) (hR : gRk n b p N tb S lo hi) (hm : m < N) (IV : gIV n sl f0 b N tb S lo hi k) (IT : gIT n sl f0 b N tb S lo hi k) (he : k ≤ e) (hcm : tb m = (15, A, B, D, v, x, y, z, q)) (hok : mz_ok tb N (k + 1) 1 m) (K : ∀ r l', cvo id (mv_v S lo hi (mv_E tb S lo hi k) (15, A, B, D, v, x, y, z, q)) false r l' → Q (.inl (some (.long r))) (n, sl, hd (gvL b l') f0)) : mi_W (e + 3) 177 0 (mi_en 2 [.ref 505, .int (Int32.ofNat m)]) [] (n, sl, hd (gvL b false) f0) Q := by
  obtain ⟨hS, hps, hpn, ⟨hlo, hhi⟩, hN8, hrg, hSo, hto⟩ := hR
  have hpo := hS.1
  obtain ⟨-, -, had, hx, -, hy, hz⟩ := hok
  have hrow := hrg m hm
  rw [hcm] at had hx hy hz hrow
  unfold mz_ad at had
  unfold gRow at hrow
  dsimp only at had hx hy hz hrow
  obtain ⟨w0, w1, w2, w3, w4, w5, w6, -, w8, w9, w10, w11, -⟩ := hrow
  have hix := ix_of (w := m) (m := 800) (by omega) (by omega)
  have h0 : ∀ l, (gvL b l).I 509 m = 15 := fun _ => w0
  have hxk : mz_ok tb N k 1 x := (hx (by decide)).2
  have ha : ∀ l, (gvL b l).I 510 m = Int32.ofNat x := fun _ => w6 (by decide)
  have hyk : mz_ok tb N k 1 y := (hy (by decide)).2
  have hb : ∀ l, (gvL b l).I 511 m = Int32.ofNat y := fun _ => w10 (by decide)
  refine b_177_0 _ _ _ (by first | (exact hd_9) | assumption) (by omega) (by exact mL_get (by decide)) ?_ ?_
  · intro z0
    refine b_177_9 (t12 := 250) _ _ _ _ _ _ (by first | (exact hd_9) | assumption) (by omega) (by exact mL_get (by decide)) (by first | (exact hd_I (by omega) rfl) | assumption) (Or.inl (by omega)) (by first | assumption | (exact ix_of (by omega) (by omega)) | (exact ⟨by decide, rfl, by decide⟩)) (by rw [h0]; decide +kernel) ?_
    refine b_177_250 _ _ _ _ _ _ _ _ _ (by first | (exact hd_9) | assumption) (by omega) (by exact mL_get (by decide)) (by first | (exact hd_I (by omega) rfl) | assumption) (Or.inl (by omega)) (by first | assumption | (exact ix_of (by omega) (by omega)) | (exact ⟨by decide, rfl, by decide⟩)) (by first | (exact hd_9) | assumption) (by omega) (by exact mL_get (by decide)) (by first | (exact hd_I (by omega) rfl) | assumption) (Or.inl (by omega)) (by first | assumption | (exact ix_of (by omega) (by omega)) | (exact ⟨by decide, rfl, by decide⟩)) (by first | (exact hd_9) | assumption) (by omega) ?_
    rw [ha]
    refine IV x _ false _ (by omega) hxk (fun r1 l1 c1 => ?_)
    refine b_177_267 _ _ _ _ _ _ (by first | (exact hd_9) | assumption) (by omega) (by exact mL_get (by decide)) (by first | (exact hd_I (by omega) rfl) | assumption) (Or.inl (by omega)) (by first | assumption | (exact ix_of (by omega) (by omega)) | (exact ⟨by decide, rfl, by decide⟩)) (by first | (exact hd_9) | assumption) (by omega) ?_
    rw [hb]
    refine IV y _ l1 _ (by omega) hyk (fun r2 l2 c2 => ?_)
    refine b_177_277 _ _ _ (by first | (exact hd_9) | assumption) (by omega) ?_
    rw [h0 false]
    have K3 : ∀ r3 l3, (l2 = true → l3 = true) → (l2 = false → cvo id (mv_two 15 r1 r2) false r3 l3) → Q (.inl (some (.long r3))) (n, sl, hd (gvL b l3) f0) := by
      intro r3 l3 t3 c3
      refine K _ _ (cvo_2 (F := fun u w => mv_two 15 u w) c1 c2 t3 (fun u w _ _ e1 e2 hl => ?_))
      subst e1 e2
      rw [hl]
      exact c3 hl
    cases l2 with
    | true =>
      refine g_two_t hn ?_
      refine b_177_280 _ _ _ ?_
      exact K3 0 true (fun _ => rfl) (fun h => Bool.noConfusion h)
    | false =>
      have hbb := cvo_b c1 c2
      refine g_two_15 hn (fun r3 l3 c3 => ?_)
      refine b_177_280 _ _ _ ?_
      exact K3 r3 l3 (fun h => Bool.noConfusion h) (fun _ => c3)
  · intro z0
    exact absurd rfl z0
theorem g_v16 {A B D x y z : Nat} {v : Int64} {q : Nat × Nat} (hn : 575 ≤ n) (hR : gRk n b p N tb S lo hi) (hm : m < N) (IV : gIV n sl f0 b N tb S lo hi k) (IT : gIT n sl f0 b N tb S lo hi k) (he : k ≤ e) (hcm : tb m = (16, A, B, D, v, x, y, z, q)) (hok : mz_ok tb N (k + 1) 1 m) (K : ∀ r l', cvo id (mv_v S lo hi (mv_E tb S lo hi k) (16, A, B, D, v, x, y, z, q)) false r l' → Q (.inl (some (.long r))) (n, sl, hd (gvL b l') f0)) : mi_W (e + 3) 177 0 (mi_en 2 [.ref 505, .int (Int32.ofNat m)]) [] (n, sl, hd (gvL b false) f0) Q := by
  obtain ⟨hS, hps, hpn, ⟨hlo, hhi⟩, hN8, hrg, hSo, hto⟩ := hR
  have hpo := hS.1
  obtain ⟨-, -, had, hx, -, hy, hz⟩ := hok
  have hrow := hrg m hm
  rw [hcm] at had hx hy hz hrow
  unfold mz_ad at had
  unfold gRow at hrow
  dsimp only at had hx hy hz hrow
  obtain ⟨w0, w1, w2, w3, w4, w5, w6, -, w8, w9, w10, w11, -⟩ := hrow
  have hix := ix_of (w := m) (m := 800) (by omega) (by omega)
  have h0 : ∀ l, (gvL b l).I 509 m = 16 := fun _ => w0
  have hxk : mz_ok tb N k 1 x := (hx (by decide)).2
  have ha : ∀ l, (gvL b l).I 510 m = Int32.ofNat x := fun _ => w6 (by decide)
  have hyk : mz_ok tb N k 1 y := (hy (by decide)).2
  have hb : ∀ l, (gvL b l).I 511 m = Int32.ofNat y := fun _ => w10 (by decide)
  refine b_177_0 _ _ _ (by first | (exact hd_9) | assumption) (by omega) (by exact mL_get (by decide)) ?_ ?_
  · intro z0
    refine b_177_9 (t12 := 250) _ _ _ _ _ _ (by first | (exact hd_9) | assumption) (by omega) (by exact mL_get (by decide)) (by first | (exact hd_I (by omega) rfl) | assumption) (Or.inl (by omega)) (by first | assumption | (exact ix_of (by omega) (by omega)) | (exact ⟨by decide, rfl, by decide⟩)) (by rw [h0]; decide +kernel) ?_
    refine b_177_250 _ _ _ _ _ _ _ _ _ (by first | (exact hd_9) | assumption) (by omega) (by exact mL_get (by decide)) (by first | (exact hd_I (by omega) rfl) | assumption) (Or.inl (by omega)) (by first | assumption | (exact ix_of (by omega) (by omega)) | (exact ⟨by decide, rfl, by decide⟩)) (by first | (exact hd_9) | assumption) (by omega) (by exact mL_get (by decide)) (by first | (exact hd_I (by omega) rfl) | assumption) (Or.inl (by omega)) (by first | assumption | (exact ix_of (by omega) (by omega)) | (exact ⟨by decide, rfl, by decide⟩)) (by first | (exact hd_9) | assumption) (by omega) ?_
    rw [ha]
    refine IV x _ false _ (by omega) hxk (fun r1 l1 c1 => ?_)
    refine b_177_267 _ _ _ _ _ _ (by first | (exact hd_9) | assumption) (by omega) (by exact mL_get (by decide)) (by first | (exact hd_I (by omega) rfl) | assumption) (Or.inl (by omega)) (by first | assumption | (exact ix_of (by omega) (by omega)) | (exact ⟨by decide, rfl, by decide⟩)) (by first | (exact hd_9) | assumption) (by omega) ?_
    rw [hb]
    refine IV y _ l1 _ (by omega) hyk (fun r2 l2 c2 => ?_)
    refine b_177_277 _ _ _ (by first | (exact hd_9) | assumption) (by omega) ?_
    rw [h0 false]
    have K3 : ∀ r3 l3, (l2 = true → l3 = true) → (l2 = false → cvo id (mv_two 16 r1 r2) false r3 l3) → Q (.inl (some (.long r3))) (n, sl, hd (gvL b l3) f0) := by
      intro r3 l3 t3 c3
      refine K _ _ (cvo_2 (F := fun u w => mv_two 16 u w) c1 c2 t3 (fun u w _ _ e1 e2 hl => ?_))
      subst e1 e2
      rw [hl]
      exact c3 hl
    cases l2 with
    | true =>
      refine g_two_t hn ?_
      refine b_177_280 _ _ _ ?_
      exact K3 0 true (fun _ => rfl) (fun h => Bool.noConfusion h)
    | false =>
      have hbb := cvo_b c1 c2
      refine g_two_16 hn (mv_E_in hSo hto k x _ hbb.1) (fun r3 l3 c3 => ?_)
      refine b_177_280 _ _ _ ?_
      exact K3 r3 l3 (fun h => Bool.noConfusion h) (fun _ => c3)
  · intro z0
    exact absurd rfl z0
theorem g_v17 {A B D x y z : Nat} {v : Int64} {q : Nat × Nat} (hn : 575 ≤ n) (hR : gRk n b p N tb S lo hi) (hm : m < N) (IV : gIV n sl f0 b N tb S lo hi k) (IT : gIT n sl f0 b N tb S lo hi k) (he : k ≤ e) (hcm : tb m = (17, A, B, D, v, x, y, z, q)) (hok : mz_ok tb N (k + 1) 1 m) (K : ∀ r l', cvo id (mv_v S lo hi (mv_E tb S lo hi k) (17, A, B, D, v, x, y, z, q)) false r l' → Q (.inl (some (.long r))) (n, sl, hd (gvL b l') f0)) : mi_W (e + 3) 177 0 (mi_en 2 [.ref 505, .int (Int32.ofNat m)]) [] (n, sl, hd (gvL b false) f0) Q := by
  obtain ⟨hS, hps, hpn, ⟨hlo, hhi⟩, hN8, hrg, hSo, hto⟩ := hR
  have hpo := hS.1
  obtain ⟨-, -, had, hx, -, hy, hz⟩ := hok
  have hrow := hrg m hm
  rw [hcm] at had hx hy hz hrow
  unfold mz_ad at had
  unfold gRow at hrow
  dsimp only at had hx hy hz hrow
  obtain ⟨w0, w1, w2, w3, w4, w5, w6, -, w8, w9, w10, w11, -⟩ := hrow
  have hix := ix_of (w := m) (m := 800) (by omega) (by omega)
  have h0 : ∀ l, (gvL b l).I 509 m = 17 := fun _ => w0
  have hA : A < 8 := had.1 (by decide)
  have h4 : (gvL b false).I 510 m = Int32.ofNat A := w1 (by decide)
  have hi4 : mi_ix ((gvL b false).I 510 m) 8 A := by
    rw [h4]
    exact ix_of (by omega) (by omega)
  refine b_177_0 _ _ _ (by first | (exact hd_9) | assumption) (by omega) (by exact mL_get (by decide)) ?_ ?_
  · intro z0
    refine b_177_9 (t12 := 123) _ _ _ _ _ _ (by first | (exact hd_9) | assumption) (by omega) (by exact mL_get (by decide)) (by first | (exact hd_I (by omega) rfl) | assumption) (Or.inl (by omega)) (by first | assumption | (exact ix_of (by omega) (by omega)) | (exact ⟨by decide, rfl, by decide⟩)) (by rw [h0]; decide +kernel) ?_
    refine b_177_123 _ _ _ _ _ _ _ _ _ (by first | (exact hd_9) | assumption) (by omega) (by exact (mL_get (by decide)).trans (congrArg some (by assumption))) (by first | (exact hd_8 (by assumption)) | assumption) (by omega) (by exact rfl) (by first | (exact hd_9) | assumption) (by omega) (by exact mL_get (by decide)) (by first | (exact hd_I (by omega) rfl) | assumption) (Or.inl (by omega)) (by first | assumption | (exact ix_of (by omega) (by omega)) | (exact ⟨by decide, rfl, by decide⟩)) (by first | (exact hd_P4 (by assumption)) | (exact hd_P5 (by assumption)) | assumption) (by omega) (by first | assumption | (exact ix_of (by omega) (by omega)) | (exact ⟨by decide, rfl, by decide⟩)) ?_ ?_
    · intro z123
      refine b_177_157 _ _ _ ?_
      refine b_177_158 _ _ _ ?_
      refine K _ false ⟨rfl, ?_⟩
      show _ = ((S.ch A).getD 0)
      rw [(hS.2.2.2.2.1 A hA).2]
      first | (rw [if_pos (show b.P 4 p A = 0 from z123)]; rfl) | (rw [if_neg (show ¬ b.P 4 p A = 0 from z123)]; rfl)
    · intro z123
      refine b_177_140 _ _ _ _ _ _ _ _ _ (by first | (exact hd_9) | assumption) (by omega) (by exact (mL_get (by decide)).trans (congrArg some (by assumption))) (by first | (exact hd_8 (by assumption)) | assumption) (by omega) (by exact rfl) (by first | (exact hd_9) | assumption) (by omega) (by exact mL_get (by decide)) (by first | (exact hd_I (by omega) rfl) | assumption) (Or.inl (by omega)) (by first | assumption | (exact ix_of (by omega) (by omega)) | (exact ⟨by decide, rfl, by decide⟩)) (by first | (exact hd_J (by omega) rfl) | (exact hd_L1 (by assumption)) | (exact hd_L2 (by assumption)) | (exact hd_L3 (by assumption)) | assumption) (by omega) (by first | assumption | (exact ix_of (by omega) (by omega)) | (exact ⟨by decide, rfl, by decide⟩)) ?_
      refine b_177_158 _ _ _ ?_
      refine K _ false ⟨rfl, ?_⟩
      show _ = ((S.ch A).getD 0)
      rw [(hS.2.2.2.2.1 A hA).2]
      first | (rw [if_pos (show b.P 4 p A = 0 from z123)]; rfl) | (rw [if_neg (show ¬ b.P 4 p A = 0 from z123)]; rfl)
  · intro z0
    exact absurd rfl z0
theorem g_v18 {A B D x y z : Nat} {v : Int64} {q : Nat × Nat} (hn : 575 ≤ n) (hR : gRk n b p N tb S lo hi) (hm : m < N) (IV : gIV n sl f0 b N tb S lo hi k) (IT : gIT n sl f0 b N tb S lo hi k) (he : k ≤ e) (hcm : tb m = (18, A, B, D, v, x, y, z, q)) (hok : mz_ok tb N (k + 1) 1 m) (K : ∀ r l', cvo id (mv_v S lo hi (mv_E tb S lo hi k) (18, A, B, D, v, x, y, z, q)) false r l' → Q (.inl (some (.long r))) (n, sl, hd (gvL b l') f0)) : mi_W (e + 3) 177 0 (mi_en 2 [.ref 505, .int (Int32.ofNat m)]) [] (n, sl, hd (gvL b false) f0) Q := by
  obtain ⟨hS, hps, hpn, ⟨hlo, hhi⟩, hN8, hrg, hSo, hto⟩ := hR
  have hpo := hS.1
  obtain ⟨-, -, had, hx, -, hy, hz⟩ := hok
  have hrow := hrg m hm
  rw [hcm] at had hx hy hz hrow
  unfold mz_ad at had
  unfold gRow at hrow
  dsimp only at had hx hy hz hrow
  obtain ⟨w0, w1, w2, w3, w4, w5, w6, -, w8, w9, w10, w11, -⟩ := hrow
  have hix := ix_of (w := m) (m := 800) (by omega) (by omega)
  have h0 : ∀ l, (gvL b l).I 509 m = 18 := fun _ => w0
  have hA : A < 8 := had.1 (by decide)
  have h4 : (gvL b false).I 510 m = Int32.ofNat A := w1 (by decide)
  have hi4 : mi_ix ((gvL b false).I 510 m) 8 A := by
    rw [h4]
    exact ix_of (by omega) (by omega)
  refine b_177_0 _ _ _ (by first | (exact hd_9) | assumption) (by omega) (by exact mL_get (by decide)) ?_ ?_
  · intro z0
    refine b_177_9 (t12 := 159) _ _ _ _ _ _ (by first | (exact hd_9) | assumption) (by omega) (by exact mL_get (by decide)) (by first | (exact hd_I (by omega) rfl) | assumption) (Or.inl (by omega)) (by first | assumption | (exact ix_of (by omega) (by omega)) | (exact ⟨by decide, rfl, by decide⟩)) (by rw [h0]; decide +kernel) ?_
    refine b_177_159 _ _ _ _ _ _ _ _ _ (by first | (exact hd_9) | assumption) (by omega) (by exact (mL_get (by decide)).trans (congrArg some (by assumption))) (by first | (exact hd_8 (by assumption)) | assumption) (by omega) (by exact rfl) (by first | (exact hd_9) | assumption) (by omega) (by exact mL_get (by decide)) (by first | (exact hd_I (by omega) rfl) | assumption) (Or.inl (by omega)) (by first | assumption | (exact ix_of (by omega) (by omega)) | (exact ⟨by decide, rfl, by decide⟩)) (by first | (exact hd_P4 (by assumption)) | (exact hd_P5 (by assumption)) | assumption) (by omega) (by first | assumption | (exact ix_of (by omega) (by omega)) | (exact ⟨by decide, rfl, by decide⟩)) ?_ ?_
    · intro z159
      refine b_177_193 _ _ _ ?_
      refine b_177_194 _ _ _ ?_
      refine K _ false ⟨rfl, ?_⟩
      show _ = ((S.us A).getD 0)
      rw [(hS.2.2.2.2.2 A hA).2]
      first | (rw [if_pos (show b.P 5 p A = 0 from z159)]; rfl) | (rw [if_neg (show ¬ b.P 5 p A = 0 from z159)]; rfl)
    · intro z159
      refine b_177_176 _ _ _ _ _ _ _ _ _ (by first | (exact hd_9) | assumption) (by omega) (by exact (mL_get (by decide)).trans (congrArg some (by assumption))) (by first | (exact hd_8 (by assumption)) | assumption) (by omega) (by exact rfl) (by first | (exact hd_9) | assumption) (by omega) (by exact mL_get (by decide)) (by first | (exact hd_I (by omega) rfl) | assumption) (Or.inl (by omega)) (by first | assumption | (exact ix_of (by omega) (by omega)) | (exact ⟨by decide, rfl, by decide⟩)) (by first | (exact hd_J (by omega) rfl) | (exact hd_L1 (by assumption)) | (exact hd_L2 (by assumption)) | (exact hd_L3 (by assumption)) | assumption) (by omega) (by first | assumption | (exact ix_of (by omega) (by omega)) | (exact ⟨by decide, rfl, by decide⟩)) ?_
      refine b_177_194 _ _ _ ?_
      refine K _ false ⟨rfl, ?_⟩
      show _ = ((S.us A).getD 0)
      rw [(hS.2.2.2.2.2 A hA).2]
      first | (rw [if_pos (show b.P 5 p A = 0 from z159)]; rfl) | (rw [if_neg (show ¬ b.P 5 p A = 0 from z159)]; rfl)
  · intro z0
    exact absurd rfl z0
theorem g_v19 {A B D x y z : Nat} {v : Int64} {q : Nat × Nat} (hn : 575 ≤ n) (hR : gRk n b p N tb S lo hi) (hm : m < N) (IV : gIV n sl f0 b N tb S lo hi k) (IT : gIT n sl f0 b N tb S lo hi k) (he : k ≤ e) (hcm : tb m = (19, A, B, D, v, x, y, z, q)) (hok : mz_ok tb N (k + 1) 1 m) (K : ∀ r l', cvo id (mv_v S lo hi (mv_E tb S lo hi k) (19, A, B, D, v, x, y, z, q)) false r l' → Q (.inl (some (.long r))) (n, sl, hd (gvL b l') f0)) : mi_W (e + 3) 177 0 (mi_en 2 [.ref 505, .int (Int32.ofNat m)]) [] (n, sl, hd (gvL b false) f0) Q := by
  obtain ⟨hS, hps, hpn, ⟨hlo, hhi⟩, hN8, hrg, hSo, hto⟩ := hR
  have hpo := hS.1
  obtain ⟨-, -, had, hx, -, hy, hz⟩ := hok
  have hrow := hrg m hm
  rw [hcm] at had hx hy hz hrow
  unfold mz_ad at had
  unfold gRow at hrow
  dsimp only at had hx hy hz hrow
  obtain ⟨w0, w1, w2, w3, w4, w5, w6, -, w8, w9, w10, w11, -⟩ := hrow
  have hix := ix_of (w := m) (m := 800) (by omega) (by omega)
  have h0 : ∀ l, (gvL b l).I 509 m = 19 := fun _ => w0
  refine b_177_0 _ _ _ (by first | (exact hd_9) | assumption) (by omega) (by exact mL_get (by decide)) ?_ ?_
  · intro z0
    refine b_177_9 (t12 := 195) _ _ _ _ _ _ (by first | (exact hd_9) | assumption) (by omega) (by exact mL_get (by decide)) (by first | (exact hd_I (by omega) rfl) | assumption) (Or.inl (by omega)) (by first | assumption | (exact ix_of (by omega) (by omega)) | (exact ⟨by decide, rfl, by decide⟩)) (by rw [h0]; decide +kernel) ?_
    refine b_177_195 _ _ _ (by first | (exact hd_9) | assumption) (by omega) (by exact mL_get (by decide)) (by first | (exact hd_9) | assumption) (by omega) ?_
    rw [show (gvL b false).J 505 44 = lo from hlo]
    refine g_fit hn (fun l1 c1 => ?_)
    refine b_177_203 _ _ _ ?_
    exact K _ _ c1
  · intro z0
    exact absurd rfl z0
theorem g_v20 {A B D x y z : Nat} {v : Int64} {q : Nat × Nat} (hn : 575 ≤ n) (hR : gRk n b p N tb S lo hi) (hm : m < N) (IV : gIV n sl f0 b N tb S lo hi k) (IT : gIT n sl f0 b N tb S lo hi k) (he : k ≤ e) (hcm : tb m = (20, A, B, D, v, x, y, z, q)) (hok : mz_ok tb N (k + 1) 1 m) (K : ∀ r l', cvo id (mv_v S lo hi (mv_E tb S lo hi k) (20, A, B, D, v, x, y, z, q)) false r l' → Q (.inl (some (.long r))) (n, sl, hd (gvL b l') f0)) : mi_W (e + 3) 177 0 (mi_en 2 [.ref 505, .int (Int32.ofNat m)]) [] (n, sl, hd (gvL b false) f0) Q := by
  obtain ⟨hS, hps, hpn, ⟨hlo, hhi⟩, hN8, hrg, hSo, hto⟩ := hR
  have hpo := hS.1
  obtain ⟨-, -, had, hx, -, hy, hz⟩ := hok
  have hrow := hrg m hm
  rw [hcm] at had hx hy hz hrow
  unfold mz_ad at had
  unfold gRow at hrow
  dsimp only at had hx hy hz hrow
  obtain ⟨w0, w1, w2, w3, w4, w5, w6, -, w8, w9, w10, w11, -⟩ := hrow
  have hix := ix_of (w := m) (m := 800) (by omega) (by omega)
  have h0 : ∀ l, (gvL b l).I 509 m = 20 := fun _ => w0
  refine b_177_0 _ _ _ (by first | (exact hd_9) | assumption) (by omega) (by exact mL_get (by decide)) ?_ ?_
  · intro z0
    refine b_177_9 (t12 := 204) _ _ _ _ _ _ (by first | (exact hd_9) | assumption) (by omega) (by exact mL_get (by decide)) (by first | (exact hd_I (by omega) rfl) | assumption) (Or.inl (by omega)) (by first | assumption | (exact ix_of (by omega) (by omega)) | (exact ⟨by decide, rfl, by decide⟩)) (by rw [h0]; decide +kernel) ?_
    refine b_177_204 _ _ _ (by first | (exact hd_9) | assumption) (by omega) (by exact mL_get (by decide)) (by first | (exact hd_9) | assumption) (by omega) ?_
    rw [show (gvL b false).J 505 45 = hi from hhi]
    refine g_fit hn (fun l1 c1 => ?_)
    refine b_177_212 _ _ _ ?_
    exact K _ _ c1
  · intro z0
    exact absurd rfl z0
theorem g_v21 {A B D x y z : Nat} {v : Int64} {q : Nat × Nat} (hn : 575 ≤ n) (hR : gRk n b p N tb S lo hi) (hm : m < N) (IV : gIV n sl f0 b N tb S lo hi k) (IT : gIT n sl f0 b N tb S lo hi k) (he : k ≤ e) (hcm : tb m = (21, A, B, D, v, x, y, z, q)) (hok : mz_ok tb N (k + 1) 1 m) (K : ∀ r l', cvo id (mv_v S lo hi (mv_E tb S lo hi k) (21, A, B, D, v, x, y, z, q)) false r l' → Q (.inl (some (.long r))) (n, sl, hd (gvL b l') f0)) : mi_W (e + 3) 177 0 (mi_en 2 [.ref 505, .int (Int32.ofNat m)]) [] (n, sl, hd (gvL b false) f0) Q := by
  obtain ⟨hS, hps, hpn, ⟨hlo, hhi⟩, hN8, hrg, hSo, hto⟩ := hR
  have hpo := hS.1
  obtain ⟨-, -, had, hx, -, hy, hz⟩ := hok
  have hrow := hrg m hm
  rw [hcm] at had hx hy hz hrow
  unfold mz_ad at had
  unfold gRow at hrow
  dsimp only at had hx hy hz hrow
  obtain ⟨w0, w1, w2, w3, w4, w5, w6, -, w8, w9, w10, w11, -⟩ := hrow
  have hix := ix_of (w := m) (m := 800) (by omega) (by omega)
  have h0 : ∀ l, (gvL b l).I 509 m = 21 := fun _ => w0
  have hxk : mz_ok tb N k 2 x := (hx (by decide)).2
  have he : ∀ l, (gvL b l).I 513 m = Int32.ofNat x := fun _ => w5 (by decide)
  have hyk : mz_ok tb N k 1 y := (hy (by decide)).2
  have ha : ∀ l, (gvL b l).I 510 m = Int32.ofNat y := fun _ => w9 (by decide)
  have hzk : mz_ok tb N k 1 z := (hz (by decide)).2
  have hb : ∀ l, (gvL b l).I 511 m = Int32.ofNat z := fun _ => w11 (by decide)
  refine b_177_0 _ _ _ (by first | (exact hd_9) | assumption) (by omega) (by exact mL_get (by decide)) ?_ ?_
  · intro z0
    refine b_177_9 (t12 := 213) _ _ _ _ _ _ (by first | (exact hd_9) | assumption) (by omega) (by exact mL_get (by decide)) (by first | (exact hd_I (by omega) rfl) | assumption) (Or.inl (by omega)) (by first | assumption | (exact ix_of (by omega) (by omega)) | (exact ⟨by decide, rfl, by decide⟩)) (by rw [h0]; decide +kernel) ?_
    refine b_177_213 _ _ _ _ _ _ (by first | (exact hd_9) | assumption) (by omega) (by exact mL_get (by decide)) (by first | (exact hd_I (by omega) rfl) | assumption) (Or.inl (by omega)) (by first | assumption | (exact ix_of (by omega) (by omega)) | (exact ⟨by decide, rfl, by decide⟩)) (by first | (exact hd_9) | assumption) (by omega) ?_
    rw [he]
    refine IT x _ false _ (by omega) hxk (fun r1 l1 hb1 c1 => ?_)
    refine b_177_223 _ _ _ ?_ ?_
    · intro z223
      obtain ⟨j, hj, hjk⟩ : ∃ j, j = z ∧ mz_ok tb N k 1 j := ⟨z, rfl, hzk⟩
      have hjv : (gvL b l1).I 511 m = Int32.ofNat j := by rw [hj]; exact hb l1
      refine b_177_239 _ _ _ _ _ _ (by first | (exact hd_9) | assumption) (by omega) (by exact mL_get (by decide)) (by first | (exact hd_I (by omega) rfl) | assumption) (Or.inl (by omega)) (by first | assumption | (exact ix_of (by omega) (by omega)) | (exact ⟨by decide, rfl, by decide⟩)) (by first | (exact hd_9) | assumption) (by omega) ?_
      rw [hjv]
      refine IV j _ l1 _ (by omega) hjk (fun r2 l2 c2 => ?_)
      refine b_177_249 _ _ _ ?_
      refine K _ _ (cvo_1 (F := fun b => (mv_E tb S lo hi k).1 (if b = true then y else z)) c1 (cvo_t c2) (fun b _ hr _ => ?_))
      subst hr hj
      cases b
      · first | exact c2 | exact absurd rfl z223
      · first | exact c2 | exact absurd z223 (by decide)
    · intro z223
      obtain ⟨j, hj, hjk⟩ : ∃ j, j = y ∧ mz_ok tb N k 1 j := ⟨y, rfl, hyk⟩
      have hjv : (gvL b l1).I 510 m = Int32.ofNat j := by rw [hj]; exact ha l1
      refine b_177_226 _ _ _ _ _ _ (by first | (exact hd_9) | assumption) (by omega) (by exact mL_get (by decide)) (by first | (exact hd_I (by omega) rfl) | assumption) (Or.inl (by omega)) (by first | assumption | (exact ix_of (by omega) (by omega)) | (exact ⟨by decide, rfl, by decide⟩)) (by first | (exact hd_9) | assumption) (by omega) ?_
      rw [hjv]
      refine IV j _ l1 _ (by omega) hjk (fun r2 l2 c2 => ?_)
      refine b_177_236 _ _ _ ?_
      refine b_177_249 _ _ _ ?_
      refine K _ _ (cvo_1 (F := fun b => (mv_E tb S lo hi k).1 (if b = true then y else z)) c1 (cvo_t c2) (fun b _ hr _ => ?_))
      subst hr hj
      cases b
      · first | exact c2 | exact absurd rfl z223
      · first | exact c2 | exact absurd z223 (by decide)
  · intro z0
    exact absurd rfl z0
theorem g_t22 {A B D x y z : Nat} {v : Int64} {q : Nat × Nat} (hn : 575 ≤ n) (hR : gRk n b p N tb S lo hi) (hm : m < N) (IV : gIV n sl f0 b N tb S lo hi k) (IT : gIT n sl f0 b N tb S lo hi k) (he : k ≤ e) (hcm : tb m = (22, A, B, D, v, x, y, z, q)) (hok : mz_ok tb N (k + 1) 2 m) (K : ∀ r l', (r = 0 ∨ r = 1) → cvo cvt (mv_t S (mv_E tb S lo hi k) (22, A, B, D, v, x, y, z, q)) false r l' → Q (.inl (some (.int r))) (n, sl, hd (gvL b l') f0)) : mi_W (e + 3) 179 0 (mi_en 6 [.ref 505, .int (Int32.ofNat m)]) [] (n, sl, hd (gvL b false) f0) Q := by
  obtain ⟨hS, hps, hpn, ⟨hlo, hhi⟩, hN8, hrg, hSo, hto⟩ := hR
  have hpo := hS.1
  obtain ⟨-, -, had, hx, -, hy, hz⟩ := hok
  have hrow := hrg m hm
  rw [hcm] at had hx hy hz hrow
  unfold mz_ad at had
  unfold gRow at hrow
  dsimp only at had hx hy hz hrow
  obtain ⟨w0, w1, w2, w3, w4, w5, w6, -, w8, w9, w10, w11, -⟩ := hrow
  have hix := ix_of (w := m) (m := 800) (by omega) (by omega)
  have h0 : ∀ l, (gvL b l).I 509 m = 22 := fun _ => w0
  refine b_179_0 _ _ _ (by first | (exact hd_9) | assumption) (by omega) (by exact mL_get (by decide)) ?_ ?_
  · intro z0
    refine b_179_9 (t16 := 52) _ _ _ _ _ _ (by first | (exact hd_9) | assumption) (by omega) (by exact mL_get (by decide)) (by first | (exact hd_I (by omega) rfl) | assumption) (Or.inl (by omega)) (by first | assumption | (exact ix_of (by omega) (by omega)) | (exact ⟨by decide, rfl, by decide⟩)) (by rw [h0]; decide +kernel) ?_
    refine b_179_52 _ _ _ ?_
    exact K _ false (by decide) ⟨rfl, rfl⟩
  · intro z0
    exact absurd rfl z0
theorem g_t23 {A B D x y z : Nat} {v : Int64} {q : Nat × Nat} (hn : 575 ≤ n) (hR : gRk n b p N tb S lo hi) (hm : m < N) (IV : gIV n sl f0 b N tb S lo hi k) (IT : gIT n sl f0 b N tb S lo hi k) (he : k ≤ e) (hcm : tb m = (23, A, B, D, v, x, y, z, q)) (hok : mz_ok tb N (k + 1) 2 m) (K : ∀ r l', (r = 0 ∨ r = 1) → cvo cvt (mv_t S (mv_E tb S lo hi k) (23, A, B, D, v, x, y, z, q)) false r l' → Q (.inl (some (.int r))) (n, sl, hd (gvL b l') f0)) : mi_W (e + 3) 179 0 (mi_en 6 [.ref 505, .int (Int32.ofNat m)]) [] (n, sl, hd (gvL b false) f0) Q := by
  obtain ⟨hS, hps, hpn, ⟨hlo, hhi⟩, hN8, hrg, hSo, hto⟩ := hR
  have hpo := hS.1
  obtain ⟨-, -, had, hx, -, hy, hz⟩ := hok
  have hrow := hrg m hm
  rw [hcm] at had hx hy hz hrow
  unfold mz_ad at had
  unfold gRow at hrow
  dsimp only at had hx hy hz hrow
  obtain ⟨w0, w1, w2, w3, w4, w5, w6, -, w8, w9, w10, w11, -⟩ := hrow
  have hix := ix_of (w := m) (m := 800) (by omega) (by omega)
  have h0 : ∀ l, (gvL b l).I 509 m = 23 := fun _ => w0
  refine b_179_0 _ _ _ (by first | (exact hd_9) | assumption) (by omega) (by exact mL_get (by decide)) ?_ ?_
  · intro z0
    refine b_179_9 (t16 := 54) _ _ _ _ _ _ (by first | (exact hd_9) | assumption) (by omega) (by exact mL_get (by decide)) (by first | (exact hd_I (by omega) rfl) | assumption) (Or.inl (by omega)) (by first | assumption | (exact ix_of (by omega) (by omega)) | (exact ⟨by decide, rfl, by decide⟩)) (by rw [h0]; decide +kernel) ?_
    refine b_179_54 _ _ _ ?_
    exact K _ false (by decide) ⟨rfl, rfl⟩
  · intro z0
    exact absurd rfl z0
theorem g_t24 {A B D x y z : Nat} {v : Int64} {q : Nat × Nat} (hn : 575 ≤ n) (hR : gRk n b p N tb S lo hi) (hm : m < N) (IV : gIV n sl f0 b N tb S lo hi k) (IT : gIT n sl f0 b N tb S lo hi k) (he : k ≤ e) (hcm : tb m = (24, A, B, D, v, x, y, z, q)) (hok : mz_ok tb N (k + 1) 2 m) (K : ∀ r l', (r = 0 ∨ r = 1) → cvo cvt (mv_t S (mv_E tb S lo hi k) (24, A, B, D, v, x, y, z, q)) false r l' → Q (.inl (some (.int r))) (n, sl, hd (gvL b l') f0)) : mi_W (e + 3) 179 0 (mi_en 6 [.ref 505, .int (Int32.ofNat m)]) [] (n, sl, hd (gvL b false) f0) Q := by
  obtain ⟨hS, hps, hpn, ⟨hlo, hhi⟩, hN8, hrg, hSo, hto⟩ := hR
  have hpo := hS.1
  obtain ⟨-, -, had, hx, -, hy, hz⟩ := hok
  have hrow := hrg m hm
  rw [hcm] at had hx hy hz hrow
  unfold mz_ad at had
  unfold gRow at hrow
  dsimp only at had hx hy hz hrow
  obtain ⟨w0, w1, w2, w3, w4, w5, w6, -, w8, w9, w10, w11, -⟩ := hrow
  have hix := ix_of (w := m) (m := 800) (by omega) (by omega)
  have h0 : ∀ l, (gvL b l).I 509 m = 24 := fun _ => w0
  have hxk : mz_ok tb N k 2 x := (hx (by decide)).2
  have ha : ∀ l, (gvL b l).I 510 m = Int32.ofNat x := fun _ => w6 (by decide)
  have hyk : mz_ok tb N k 2 y := (hy (by decide)).2
  have hb : ∀ l, (gvL b l).I 511 m = Int32.ofNat y := fun _ => w10 (by decide)
  refine b_179_0 _ _ _ (by first | (exact hd_9) | assumption) (by omega) (by exact mL_get (by decide)) ?_ ?_
  · intro z0
    refine b_179_9 (t16 := 56) _ _ _ _ _ _ (by first | (exact hd_9) | assumption) (by omega) (by exact mL_get (by decide)) (by first | (exact hd_I (by omega) rfl) | assumption) (Or.inl (by omega)) (by first | assumption | (exact ix_of (by omega) (by omega)) | (exact ⟨by decide, rfl, by decide⟩)) (by rw [h0]; decide +kernel) ?_
    refine b_179_56 _ _ _ _ _ _ (by first | (exact hd_9) | assumption) (by omega) (by exact mL_get (by decide)) (by first | (exact hd_I (by omega) rfl) | assumption) (Or.inl (by omega)) (by first | assumption | (exact ix_of (by omega) (by omega)) | (exact ⟨by decide, rfl, by decide⟩)) (by first | (exact hd_9) | assumption) (by omega) ?_
    rw [ha]
    refine IT x _ false _ (by omega) hxk (fun r1 l1 hb1 c1 => ?_)
    refine b_179_66 _ _ _ _ _ _ (by first | (exact hd_9) | assumption) (by omega) (by exact mL_get (by decide)) (by first | (exact hd_I (by omega) rfl) | assumption) (Or.inl (by omega)) (by first | assumption | (exact ix_of (by omega) (by omega)) | (exact ⟨by decide, rfl, by decide⟩)) (by first | (exact hd_9) | assumption) (by omega) ?_
    rw [hb]
    refine IT y _ l1 _ (by omega) hyk (fun r2 l2 hb2 c2 => ?_)
    refine b_179_77 _ _ _ ?_ ?_
    · intro z77
      refine b_179_90 _ _ _ ?_
      refine b_179_91 _ _ _ (by first | assumption | (exact mL_get (by decide)) | (rw [mL_len]; decide) | (simp only [mL_set]; exact mL_get (by decide)) | (simp only [mL_set, mL_len]; decide) | (exact va_eq) | (exact (va_ne (by omega)).trans (by assumption)) | (exact (va_ne (by omega)).trans va_eq) | (exact (va_ne (by omega)).trans ((va_ne (by omega)).trans (by assumption))) | (exact (va_ne (by omega)).trans ((va_ne (by omega)).trans ((va_ne (by omega)).trans (by assumption)))) | rfl | (exact Or.inl rfl) | (exact Or.inr rfl) | omega | (exact Nat.le_of_ble_eq_true rfl) | decide | (exact ⟨by decide, rfl, by decide⟩)) ?_
      refine K _ _ (by decide) (cvo_2 (F := fun u w => some (u && w)) c1 c2 (fun e => e) (fun u w _ _ e1 e2 hl => ?_))
      subst e1 e2
      rw [hl]
      refine ⟨rfl, ?_⟩
      cases u <;> cases w <;> first | rfl | (exact absurd rfl z77) | (exact absurd rfl z82) | (exact absurd z77 (by decide)) | (exact absurd z82 (by decide)) | (exact absurd (Classical.not_not.mp z77) (by decide)) | (exact absurd (Classical.not_not.mp z82) (by decide))
    · intro z77
      refine b_179_82 _ _ _ ?_ ?_
      · intro z82
        refine b_179_90 _ _ _ ?_
        refine b_179_91 _ _ _ (by first | assumption | (exact mL_get (by decide)) | (rw [mL_len]; decide) | (simp only [mL_set]; exact mL_get (by decide)) | (simp only [mL_set, mL_len]; decide) | (exact va_eq) | (exact (va_ne (by omega)).trans (by assumption)) | (exact (va_ne (by omega)).trans va_eq) | (exact (va_ne (by omega)).trans ((va_ne (by omega)).trans (by assumption))) | (exact (va_ne (by omega)).trans ((va_ne (by omega)).trans ((va_ne (by omega)).trans (by assumption)))) | rfl | (exact Or.inl rfl) | (exact Or.inr rfl) | omega | (exact Nat.le_of_ble_eq_true rfl) | decide | (exact ⟨by decide, rfl, by decide⟩)) ?_
        refine K _ _ (by decide) (cvo_2 (F := fun u w => some (u && w)) c1 c2 (fun e => e) (fun u w _ _ e1 e2 hl => ?_))
        subst e1 e2
        rw [hl]
        refine ⟨rfl, ?_⟩
        cases u <;> cases w <;> first | rfl | (exact absurd rfl z77) | (exact absurd rfl z82) | (exact absurd z77 (by decide)) | (exact absurd z82 (by decide)) | (exact absurd (Classical.not_not.mp z77) (by decide)) | (exact absurd (Classical.not_not.mp z82) (by decide))
      · intro z82
        refine b_179_86 _ _ _ ?_
        refine b_179_91 _ _ _ (by first | assumption | (exact mL_get (by decide)) | (rw [mL_len]; decide) | (simp only [mL_set]; exact mL_get (by decide)) | (simp only [mL_set, mL_len]; decide) | (exact va_eq) | (exact (va_ne (by omega)).trans (by assumption)) | (exact (va_ne (by omega)).trans va_eq) | (exact (va_ne (by omega)).trans ((va_ne (by omega)).trans (by assumption))) | (exact (va_ne (by omega)).trans ((va_ne (by omega)).trans ((va_ne (by omega)).trans (by assumption)))) | rfl | (exact Or.inl rfl) | (exact Or.inr rfl) | omega | (exact Nat.le_of_ble_eq_true rfl) | decide | (exact ⟨by decide, rfl, by decide⟩)) ?_
        refine K _ _ (by decide) (cvo_2 (F := fun u w => some (u && w)) c1 c2 (fun e => e) (fun u w _ _ e1 e2 hl => ?_))
        subst e1 e2
        rw [hl]
        refine ⟨rfl, ?_⟩
        cases u <;> cases w <;> first | rfl | (exact absurd rfl z77) | (exact absurd rfl z82) | (exact absurd z77 (by decide)) | (exact absurd z82 (by decide)) | (exact absurd (Classical.not_not.mp z77) (by decide)) | (exact absurd (Classical.not_not.mp z82) (by decide))
  · intro z0
    exact absurd rfl z0
theorem g_t25 {A B D x y z : Nat} {v : Int64} {q : Nat × Nat} (hn : 575 ≤ n) (hR : gRk n b p N tb S lo hi) (hm : m < N) (IV : gIV n sl f0 b N tb S lo hi k) (IT : gIT n sl f0 b N tb S lo hi k) (he : k ≤ e) (hcm : tb m = (25, A, B, D, v, x, y, z, q)) (hok : mz_ok tb N (k + 1) 2 m) (K : ∀ r l', (r = 0 ∨ r = 1) → cvo cvt (mv_t S (mv_E tb S lo hi k) (25, A, B, D, v, x, y, z, q)) false r l' → Q (.inl (some (.int r))) (n, sl, hd (gvL b l') f0)) : mi_W (e + 3) 179 0 (mi_en 6 [.ref 505, .int (Int32.ofNat m)]) [] (n, sl, hd (gvL b false) f0) Q := by
  obtain ⟨hS, hps, hpn, ⟨hlo, hhi⟩, hN8, hrg, hSo, hto⟩ := hR
  have hpo := hS.1
  obtain ⟨-, -, had, hx, -, hy, hz⟩ := hok
  have hrow := hrg m hm
  rw [hcm] at had hx hy hz hrow
  unfold mz_ad at had
  unfold gRow at hrow
  dsimp only at had hx hy hz hrow
  obtain ⟨w0, w1, w2, w3, w4, w5, w6, -, w8, w9, w10, w11, -⟩ := hrow
  have hix := ix_of (w := m) (m := 800) (by omega) (by omega)
  have h0 : ∀ l, (gvL b l).I 509 m = 25 := fun _ => w0
  have hxk : mz_ok tb N k 2 x := (hx (by decide)).2
  have ha : ∀ l, (gvL b l).I 510 m = Int32.ofNat x := fun _ => w6 (by decide)
  have hyk : mz_ok tb N k 2 y := (hy (by decide)).2
  have hb : ∀ l, (gvL b l).I 511 m = Int32.ofNat y := fun _ => w10 (by decide)
  refine b_179_0 _ _ _ (by first | (exact hd_9) | assumption) (by omega) (by exact mL_get (by decide)) ?_ ?_
  · intro z0
    refine b_179_9 (t16 := 92) _ _ _ _ _ _ (by first | (exact hd_9) | assumption) (by omega) (by exact mL_get (by decide)) (by first | (exact hd_I (by omega) rfl) | assumption) (Or.inl (by omega)) (by first | assumption | (exact ix_of (by omega) (by omega)) | (exact ⟨by decide, rfl, by decide⟩)) (by rw [h0]; decide +kernel) ?_
    refine b_179_92 _ _ _ _ _ _ (by first | (exact hd_9) | assumption) (by omega) (by exact mL_get (by decide)) (by first | (exact hd_I (by omega) rfl) | assumption) (Or.inl (by omega)) (by first | assumption | (exact ix_of (by omega) (by omega)) | (exact ⟨by decide, rfl, by decide⟩)) (by first | (exact hd_9) | assumption) (by omega) ?_
    rw [ha]
    refine IT x _ false _ (by omega) hxk (fun r1 l1 hb1 c1 => ?_)
    refine b_179_102 _ _ _ _ _ _ (by first | (exact hd_9) | assumption) (by omega) (by exact mL_get (by decide)) (by first | (exact hd_I (by omega) rfl) | assumption) (Or.inl (by omega)) (by first | assumption | (exact ix_of (by omega) (by omega)) | (exact ⟨by decide, rfl, by decide⟩)) (by first | (exact hd_9) | assumption) (by omega) ?_
    rw [hb]
    refine IT y _ l1 _ (by omega) hyk (fun r2 l2 hb2 c2 => ?_)
    refine b_179_113 _ _ _ ?_ ?_
    · intro z113
      refine b_179_122 _ _ _ ?_
      refine b_179_127 _ _ _ (by first | assumption | (exact mL_get (by decide)) | (rw [mL_len]; decide) | (simp only [mL_set]; exact mL_get (by decide)) | (simp only [mL_set, mL_len]; decide) | (exact va_eq) | (exact (va_ne (by omega)).trans (by assumption)) | (exact (va_ne (by omega)).trans va_eq) | (exact (va_ne (by omega)).trans ((va_ne (by omega)).trans (by assumption))) | (exact (va_ne (by omega)).trans ((va_ne (by omega)).trans ((va_ne (by omega)).trans (by assumption)))) | rfl | (exact Or.inl rfl) | (exact Or.inr rfl) | omega | (exact Nat.le_of_ble_eq_true rfl) | decide | (exact ⟨by decide, rfl, by decide⟩)) ?_
      refine K _ _ (by decide) (cvo_2 (F := fun u w => some (u || w)) c1 c2 (fun e => e) (fun u w _ _ e1 e2 hl => ?_))
      subst e1 e2
      rw [hl]
      refine ⟨rfl, ?_⟩
      cases u <;> cases w <;> first | rfl | (exact absurd rfl z113) | (exact absurd rfl z118) | (exact absurd z113 (by decide)) | (exact absurd z118 (by decide)) | (exact absurd (Classical.not_not.mp z113) (by decide)) | (exact absurd (Classical.not_not.mp z118) (by decide))
    · intro z113
      refine b_179_118 _ _ _ ?_ ?_
      · intro z118
        refine b_179_126 _ _ _ ?_
        refine b_179_127 _ _ _ (by first | assumption | (exact mL_get (by decide)) | (rw [mL_len]; decide) | (simp only [mL_set]; exact mL_get (by decide)) | (simp only [mL_set, mL_len]; decide) | (exact va_eq) | (exact (va_ne (by omega)).trans (by assumption)) | (exact (va_ne (by omega)).trans va_eq) | (exact (va_ne (by omega)).trans ((va_ne (by omega)).trans (by assumption))) | (exact (va_ne (by omega)).trans ((va_ne (by omega)).trans ((va_ne (by omega)).trans (by assumption)))) | rfl | (exact Or.inl rfl) | (exact Or.inr rfl) | omega | (exact Nat.le_of_ble_eq_true rfl) | decide | (exact ⟨by decide, rfl, by decide⟩)) ?_
        refine K _ _ (by decide) (cvo_2 (F := fun u w => some (u || w)) c1 c2 (fun e => e) (fun u w _ _ e1 e2 hl => ?_))
        subst e1 e2
        rw [hl]
        refine ⟨rfl, ?_⟩
        cases u <;> cases w <;> first | rfl | (exact absurd rfl z113) | (exact absurd rfl z118) | (exact absurd z113 (by decide)) | (exact absurd z118 (by decide)) | (exact absurd (Classical.not_not.mp z113) (by decide)) | (exact absurd (Classical.not_not.mp z118) (by decide))
      · intro z118
        refine b_179_122 _ _ _ ?_
        refine b_179_127 _ _ _ (by first | assumption | (exact mL_get (by decide)) | (rw [mL_len]; decide) | (simp only [mL_set]; exact mL_get (by decide)) | (simp only [mL_set, mL_len]; decide) | (exact va_eq) | (exact (va_ne (by omega)).trans (by assumption)) | (exact (va_ne (by omega)).trans va_eq) | (exact (va_ne (by omega)).trans ((va_ne (by omega)).trans (by assumption))) | (exact (va_ne (by omega)).trans ((va_ne (by omega)).trans ((va_ne (by omega)).trans (by assumption)))) | rfl | (exact Or.inl rfl) | (exact Or.inr rfl) | omega | (exact Nat.le_of_ble_eq_true rfl) | decide | (exact ⟨by decide, rfl, by decide⟩)) ?_
        refine K _ _ (by decide) (cvo_2 (F := fun u w => some (u || w)) c1 c2 (fun e => e) (fun u w _ _ e1 e2 hl => ?_))
        subst e1 e2
        rw [hl]
        refine ⟨rfl, ?_⟩
        cases u <;> cases w <;> first | rfl | (exact absurd rfl z113) | (exact absurd rfl z118) | (exact absurd z113 (by decide)) | (exact absurd z118 (by decide)) | (exact absurd (Classical.not_not.mp z113) (by decide)) | (exact absurd (Classical.not_not.mp z118) (by decide))
  · intro z0
    exact absurd rfl z0
theorem g_t26 {A B D x y z : Nat} {v : Int64} {q : Nat × Nat} (hn : 575 ≤ n) (hR : gRk n b p N tb S lo hi) (hm : m < N) (IV : gIV n sl f0 b N tb S lo hi k) (IT : gIT n sl f0 b N tb S lo hi k) (he : k ≤ e) (hcm : tb m = (26, A, B, D, v, x, y, z, q)) (hok : mz_ok tb N (k + 1) 2 m) (K : ∀ r l', (r = 0 ∨ r = 1) → cvo cvt (mv_t S (mv_E tb S lo hi k) (26, A, B, D, v, x, y, z, q)) false r l' → Q (.inl (some (.int r))) (n, sl, hd (gvL b l') f0)) : mi_W (e + 3) 179 0 (mi_en 6 [.ref 505, .int (Int32.ofNat m)]) [] (n, sl, hd (gvL b false) f0) Q := by
  obtain ⟨hS, hps, hpn, ⟨hlo, hhi⟩, hN8, hrg, hSo, hto⟩ := hR
  have hpo := hS.1
  obtain ⟨-, -, had, hx, -, hy, hz⟩ := hok
  have hrow := hrg m hm
  rw [hcm] at had hx hy hz hrow
  unfold mz_ad at had
  unfold gRow at hrow
  dsimp only at had hx hy hz hrow
  obtain ⟨w0, w1, w2, w3, w4, w5, w6, -, w8, w9, w10, w11, -⟩ := hrow
  have hix := ix_of (w := m) (m := 800) (by omega) (by omega)
  have h0 : ∀ l, (gvL b l).I 509 m = 26 := fun _ => w0
  have hxk : mz_ok tb N k 2 x := (hx (by decide)).2
  have ha : ∀ l, (gvL b l).I 510 m = Int32.ofNat x := fun _ => w6 (by decide)
  refine b_179_0 _ _ _ (by first | (exact hd_9) | assumption) (by omega) (by exact mL_get (by decide)) ?_ ?_
  · intro z0
    refine b_179_9 (t16 := 128) _ _ _ _ _ _ (by first | (exact hd_9) | assumption) (by omega) (by exact mL_get (by decide)) (by first | (exact hd_I (by omega) rfl) | assumption) (Or.inl (by omega)) (by first | assumption | (exact ix_of (by omega) (by omega)) | (exact ⟨by decide, rfl, by decide⟩)) (by rw [h0]; decide +kernel) ?_
    refine b_179_128 _ _ _ _ _ _ (by first | (exact hd_9) | assumption) (by omega) (by exact mL_get (by decide)) (by first | (exact hd_I (by omega) rfl) | assumption) (Or.inl (by omega)) (by first | assumption | (exact ix_of (by omega) (by omega)) | (exact ⟨by decide, rfl, by decide⟩)) (by first | (exact hd_9) | assumption) (by omega) ?_
    rw [ha]
    refine IT x _ false _ (by omega) hxk (fun r1 l1 hb1 c1 => ?_)
    refine b_179_138 _ _ _ ?_ ?_
    · intro z138
      refine b_179_145 _ _ _ ?_
      refine b_179_146 _ _ _ (by first | assumption | (exact mL_get (by decide)) | (rw [mL_len]; decide) | (simp only [mL_set]; exact mL_get (by decide)) | (simp only [mL_set, mL_len]; decide) | (exact va_eq) | (exact (va_ne (by omega)).trans (by assumption)) | (exact (va_ne (by omega)).trans va_eq) | (exact (va_ne (by omega)).trans ((va_ne (by omega)).trans (by assumption))) | (exact (va_ne (by omega)).trans ((va_ne (by omega)).trans ((va_ne (by omega)).trans (by assumption)))) | rfl | (exact Or.inl rfl) | (exact Or.inr rfl) | omega | (exact Nat.le_of_ble_eq_true rfl) | decide | (exact ⟨by decide, rfl, by decide⟩)) ?_
      refine K _ _ (by decide) (cvo_m (F := fun u => !u) c1 (fun u _ e => ?_))
      subst e
      cases u
      · first | rfl | exact absurd rfl z138
      · first | rfl | exact absurd (Classical.not_not.mp z138) (by decide)
    · intro z138
      refine b_179_141 _ _ _ ?_
      refine b_179_146 _ _ _ (by first | assumption | (exact mL_get (by decide)) | (rw [mL_len]; decide) | (simp only [mL_set]; exact mL_get (by decide)) | (simp only [mL_set, mL_len]; decide) | (exact va_eq) | (exact (va_ne (by omega)).trans (by assumption)) | (exact (va_ne (by omega)).trans va_eq) | (exact (va_ne (by omega)).trans ((va_ne (by omega)).trans (by assumption))) | (exact (va_ne (by omega)).trans ((va_ne (by omega)).trans ((va_ne (by omega)).trans (by assumption)))) | rfl | (exact Or.inl rfl) | (exact Or.inr rfl) | omega | (exact Nat.le_of_ble_eq_true rfl) | decide | (exact ⟨by decide, rfl, by decide⟩)) ?_
      refine K _ _ (by decide) (cvo_m (F := fun u => !u) c1 (fun u _ e => ?_))
      subst e
      cases u
      · first | rfl | exact absurd rfl z138
      · first | rfl | exact absurd (Classical.not_not.mp z138) (by decide)
  · intro z0
    exact absurd rfl z0
theorem g_t27 {A B D x y z : Nat} {v : Int64} {q : Nat × Nat} (hn : 575 ≤ n) (hR : gRk n b p N tb S lo hi) (hm : m < N) (IV : gIV n sl f0 b N tb S lo hi k) (IT : gIT n sl f0 b N tb S lo hi k) (he : k ≤ e) (hcm : tb m = (27, A, B, D, v, x, y, z, q)) (hok : mz_ok tb N (k + 1) 2 m) (K : ∀ r l', (r = 0 ∨ r = 1) → cvo cvt (mv_t S (mv_E tb S lo hi k) (27, A, B, D, v, x, y, z, q)) false r l' → Q (.inl (some (.int r))) (n, sl, hd (gvL b l') f0)) : mi_W (e + 3) 179 0 (mi_en 6 [.ref 505, .int (Int32.ofNat m)]) [] (n, sl, hd (gvL b false) f0) Q := by
  obtain ⟨hS, hps, hpn, ⟨hlo, hhi⟩, hN8, hrg, hSo, hto⟩ := hR
  have hpo := hS.1
  obtain ⟨-, -, had, hx, -, hy, hz⟩ := hok
  have hrow := hrg m hm
  rw [hcm] at had hx hy hz hrow
  unfold mz_ad at had
  unfold gRow at hrow
  dsimp only at had hx hy hz hrow
  obtain ⟨w0, w1, w2, w3, w4, w5, w6, -, w8, w9, w10, w11, -⟩ := hrow
  have hix := ix_of (w := m) (m := 800) (by omega) (by omega)
  have h0 : ∀ l, (gvL b l).I 509 m = 27 := fun _ => w0
  have hA : A < 8 := had.1 (by decide)
  have h4 : (gvL b false).I 510 m = Int32.ofNat A := w1 (by decide)
  have hi4 : mi_ix ((gvL b false).I 510 m) 8 A := by
    rw [h4]
    exact ix_of (by omega) (by omega)
  have h01 : (gvL b false).P 4 p A = 0 ∨ (gvL b false).P 4 p A = 1 := (hS.2.2.2.2.1 A hA).1
  refine b_179_0 _ _ _ (by first | (exact hd_9) | assumption) (by omega) (by exact mL_get (by decide)) ?_ ?_
  · intro z0
    refine b_179_9 (t16 := 147) _ _ _ _ _ _ (by first | (exact hd_9) | assumption) (by omega) (by exact mL_get (by decide)) (by first | (exact hd_I (by omega) rfl) | assumption) (Or.inl (by omega)) (by first | assumption | (exact ix_of (by omega) (by omega)) | (exact ⟨by decide, rfl, by decide⟩)) (by rw [h0]; decide +kernel) ?_
    refine b_179_147 _ _ _ _ _ _ _ _ _ (by first | (exact hd_9) | assumption) (by omega) (by exact (mL_get (by decide)).trans (congrArg some (by assumption))) (by first | (exact hd_8 (by assumption)) | assumption) (by omega) (by exact rfl) (by first | (exact hd_9) | assumption) (by omega) (by exact mL_get (by decide)) (by first | (exact hd_I (by omega) rfl) | assumption) (Or.inl (by omega)) (by first | assumption | (exact ix_of (by omega) (by omega)) | (exact ⟨by decide, rfl, by decide⟩)) (by first | (exact hd_P4 (by assumption)) | (exact hd_P5 (by assumption)) | assumption) (by omega) (by first | assumption | (exact ix_of (by omega) (by omega)) | (exact ⟨by decide, rfl, by decide⟩)) (by first | assumption | (exact mL_get (by decide)) | (rw [mL_len]; decide) | (simp only [mL_set]; exact mL_get (by decide)) | (simp only [mL_set, mL_len]; decide) | (exact va_eq) | (exact (va_ne (by omega)).trans (by assumption)) | (exact (va_ne (by omega)).trans va_eq) | (exact (va_ne (by omega)).trans ((va_ne (by omega)).trans (by assumption))) | (exact (va_ne (by omega)).trans ((va_ne (by omega)).trans ((va_ne (by omega)).trans (by assumption)))) | rfl | (exact Or.inl rfl) | (exact Or.inr rfl) | omega | (exact Nat.le_of_ble_eq_true rfl) | decide | (exact ⟨by decide, rfl, by decide⟩)) ?_
    refine K _ false h01 ⟨rfl, ?_⟩
    show b.P 4 p A = cvt (S.ch A).isSome
    rw [(hS.2.2.2.2.1 A hA).2]
    rcases (hS.2.2.2.2.1 A hA).1 with h | h
    · rw [h, if_pos rfl]
      rfl
    · rw [h, if_neg (by decide)]
      rfl
  · intro z0
    exact absurd rfl z0
theorem g_t28 {A B D x y z : Nat} {v : Int64} {q : Nat × Nat} (hn : 575 ≤ n) (hR : gRk n b p N tb S lo hi) (hm : m < N) (IV : gIV n sl f0 b N tb S lo hi k) (IT : gIT n sl f0 b N tb S lo hi k) (he : k ≤ e) (hcm : tb m = (28, A, B, D, v, x, y, z, q)) (hok : mz_ok tb N (k + 1) 2 m) (K : ∀ r l', (r = 0 ∨ r = 1) → cvo cvt (mv_t S (mv_E tb S lo hi k) (28, A, B, D, v, x, y, z, q)) false r l' → Q (.inl (some (.int r))) (n, sl, hd (gvL b l') f0)) : mi_W (e + 3) 179 0 (mi_en 6 [.ref 505, .int (Int32.ofNat m)]) [] (n, sl, hd (gvL b false) f0) Q := by
  obtain ⟨hS, hps, hpn, ⟨hlo, hhi⟩, hN8, hrg, hSo, hto⟩ := hR
  have hpo := hS.1
  obtain ⟨-, -, had, hx, -, hy, hz⟩ := hok
  have hrow := hrg m hm
  rw [hcm] at had hx hy hz hrow
  unfold mz_ad at had
  unfold gRow at hrow
  dsimp only at had hx hy hz hrow
  obtain ⟨w0, w1, w2, w3, w4, w5, w6, -, w8, w9, w10, w11, -⟩ := hrow
  have hix := ix_of (w := m) (m := 800) (by omega) (by omega)
  have h0 : ∀ l, (gvL b l).I 509 m = 28 := fun _ => w0
  have hxk : mz_ok tb N k 1 x := (hx (by decide)).2
  have ha : ∀ l, (gvL b l).I 510 m = Int32.ofNat x := fun _ => w6 (by decide)
  have hyk : mz_ok tb N k 1 y := (hy (by decide)).2
  have hb : ∀ l, (gvL b l).I 511 m = Int32.ofNat y := fun _ => w10 (by decide)
  refine b_179_0 _ _ _ (by first | (exact hd_9) | assumption) (by omega) (by exact mL_get (by decide)) ?_ ?_
  · intro z0
    refine b_179_9 (t16 := 162) _ _ _ _ _ _ (by first | (exact hd_9) | assumption) (by omega) (by exact mL_get (by decide)) (by first | (exact hd_I (by omega) rfl) | assumption) (Or.inl (by omega)) (by first | assumption | (exact ix_of (by omega) (by omega)) | (exact ⟨by decide, rfl, by decide⟩)) (by rw [h0]; decide +kernel) ?_
    refine b_179_162 _ _ _ _ _ _ (by first | (exact hd_9) | assumption) (by omega) (by exact mL_get (by decide)) (by first | (exact hd_I (by omega) rfl) | assumption) (Or.inl (by omega)) (by first | assumption | (exact ix_of (by omega) (by omega)) | (exact ⟨by decide, rfl, by decide⟩)) (by first | (exact hd_9) | assumption) (by omega) ?_
    rw [ha]
    refine IV x _ false _ (by omega) hxk (fun r1 l1 c1 => ?_)
    refine b_179_172 _ _ _ _ _ _ (by first | (exact hd_9) | assumption) (by omega) (by exact mL_get (by decide)) (by first | (exact hd_I (by omega) rfl) | assumption) (Or.inl (by omega)) (by first | assumption | (exact ix_of (by omega) (by omega)) | (exact ⟨by decide, rfl, by decide⟩)) (by first | (exact hd_9) | assumption) (by omega) ?_
    rw [hb]
    refine IV y _ l1 _ (by omega) hyk (fun r2 l2 c2 => ?_)
    refine b_179_183 _ _ _ _ _ _ (by first | (exact hd_9) | assumption) (by omega) (by exact mL_get (by decide)) (by first | (exact hd_I (by omega) rfl) | assumption) (Or.inl (by omega)) (by first | assumption | (exact ix_of (by omega) (by omega)) | (exact ⟨by decide, rfl, by decide⟩)) ?_ ?_
    · intro z183
      exact absurd (h0 l2) z183
    · intro z183
      refine b_179_196 _ _ _ ?_ ?_
      · intro z196
        refine b_179_207 _ _ _ ?_
        refine b_179_301 _ _ _ (by first | assumption | (exact mL_get (by decide)) | (rw [mL_len]; decide) | (simp only [mL_set]; exact mL_get (by decide)) | (simp only [mL_set, mL_len]; decide) | (exact va_eq) | (exact (va_ne (by omega)).trans (by assumption)) | (exact (va_ne (by omega)).trans va_eq) | (exact (va_ne (by omega)).trans ((va_ne (by omega)).trans (by assumption))) | (exact (va_ne (by omega)).trans ((va_ne (by omega)).trans ((va_ne (by omega)).trans (by assumption)))) | rfl | (exact Or.inl rfl) | (exact Or.inr rfl) | omega | (exact Nat.le_of_ble_eq_true rfl) | decide | (exact ⟨by decide, rfl, by decide⟩)) ?_
        have hc : mv_cmp 28 r1 r2 = false := decide_eq_false (p := r2 ≤ r1) (fun h => absurd (lg_lt.mp z196) (Int64.not_lt.mpr h))
        refine K _ _ (by decide) (cvo_2 (F := fun u w => some (mv_cmp 28 u w)) c1 c2 (fun e => e) (fun u w _ _ e1 e2 hl => ?_))
        subst e1 e2
        rw [hl]
        exact ⟨rfl, by show (0 : Int32) = cvt (mv_cmp 28 r1 r2); rw [hc]; rfl⟩
      · intro z196
        refine b_179_203 _ _ _ ?_
        refine b_179_301 _ _ _ (by first | assumption | (exact mL_get (by decide)) | (rw [mL_len]; decide) | (simp only [mL_set]; exact mL_get (by decide)) | (simp only [mL_set, mL_len]; decide) | (exact va_eq) | (exact (va_ne (by omega)).trans (by assumption)) | (exact (va_ne (by omega)).trans va_eq) | (exact (va_ne (by omega)).trans ((va_ne (by omega)).trans (by assumption))) | (exact (va_ne (by omega)).trans ((va_ne (by omega)).trans ((va_ne (by omega)).trans (by assumption)))) | rfl | (exact Or.inl rfl) | (exact Or.inr rfl) | omega | (exact Nat.le_of_ble_eq_true rfl) | decide | (exact ⟨by decide, rfl, by decide⟩)) ?_
        have hc : mv_cmp 28 r1 r2 = true := decide_eq_true (p := r2 ≤ r1) (Classical.not_not.mp (fun h => z196 (lg_lt.mpr (Int64.not_le.mp h))))
        refine K _ _ (by decide) (cvo_2 (F := fun u w => some (mv_cmp 28 u w)) c1 c2 (fun e => e) (fun u w _ _ e1 e2 hl => ?_))
        subst e1 e2
        rw [hl]
        exact ⟨rfl, by show (1 : Int32) = cvt (mv_cmp 28 r1 r2); rw [hc]; rfl⟩
  · intro z0
    exact absurd rfl z0
theorem g_t29 {A B D x y z : Nat} {v : Int64} {q : Nat × Nat} (hn : 575 ≤ n) (hR : gRk n b p N tb S lo hi) (hm : m < N) (IV : gIV n sl f0 b N tb S lo hi k) (IT : gIT n sl f0 b N tb S lo hi k) (he : k ≤ e) (hcm : tb m = (29, A, B, D, v, x, y, z, q)) (hok : mz_ok tb N (k + 1) 2 m) (K : ∀ r l', (r = 0 ∨ r = 1) → cvo cvt (mv_t S (mv_E tb S lo hi k) (29, A, B, D, v, x, y, z, q)) false r l' → Q (.inl (some (.int r))) (n, sl, hd (gvL b l') f0)) : mi_W (e + 3) 179 0 (mi_en 6 [.ref 505, .int (Int32.ofNat m)]) [] (n, sl, hd (gvL b false) f0) Q := by
  obtain ⟨hS, hps, hpn, ⟨hlo, hhi⟩, hN8, hrg, hSo, hto⟩ := hR
  have hpo := hS.1
  obtain ⟨-, -, had, hx, -, hy, hz⟩ := hok
  have hrow := hrg m hm
  rw [hcm] at had hx hy hz hrow
  unfold mz_ad at had
  unfold gRow at hrow
  dsimp only at had hx hy hz hrow
  obtain ⟨w0, w1, w2, w3, w4, w5, w6, -, w8, w9, w10, w11, -⟩ := hrow
  have hix := ix_of (w := m) (m := 800) (by omega) (by omega)
  have h0 : ∀ l, (gvL b l).I 509 m = 29 := fun _ => w0
  have hxk : mz_ok tb N k 1 x := (hx (by decide)).2
  have ha : ∀ l, (gvL b l).I 510 m = Int32.ofNat x := fun _ => w6 (by decide)
  have hyk : mz_ok tb N k 1 y := (hy (by decide)).2
  have hb : ∀ l, (gvL b l).I 511 m = Int32.ofNat y := fun _ => w10 (by decide)
  refine b_179_0 _ _ _ (by first | (exact hd_9) | assumption) (by omega) (by exact mL_get (by decide)) ?_ ?_
  · intro z0
    refine b_179_9 (t16 := 162) _ _ _ _ _ _ (by first | (exact hd_9) | assumption) (by omega) (by exact mL_get (by decide)) (by first | (exact hd_I (by omega) rfl) | assumption) (Or.inl (by omega)) (by first | assumption | (exact ix_of (by omega) (by omega)) | (exact ⟨by decide, rfl, by decide⟩)) (by rw [h0]; decide +kernel) ?_
    refine b_179_162 _ _ _ _ _ _ (by first | (exact hd_9) | assumption) (by omega) (by exact mL_get (by decide)) (by first | (exact hd_I (by omega) rfl) | assumption) (Or.inl (by omega)) (by first | assumption | (exact ix_of (by omega) (by omega)) | (exact ⟨by decide, rfl, by decide⟩)) (by first | (exact hd_9) | assumption) (by omega) ?_
    rw [ha]
    refine IV x _ false _ (by omega) hxk (fun r1 l1 c1 => ?_)
    refine b_179_172 _ _ _ _ _ _ (by first | (exact hd_9) | assumption) (by omega) (by exact mL_get (by decide)) (by first | (exact hd_I (by omega) rfl) | assumption) (Or.inl (by omega)) (by first | assumption | (exact ix_of (by omega) (by omega)) | (exact ⟨by decide, rfl, by decide⟩)) (by first | (exact hd_9) | assumption) (by omega) ?_
    rw [hb]
    refine IV y _ l1 _ (by omega) hyk (fun r2 l2 c2 => ?_)
    refine b_179_183 _ _ _ _ _ _ (by first | (exact hd_9) | assumption) (by omega) (by exact mL_get (by decide)) (by first | (exact hd_I (by omega) rfl) | assumption) (Or.inl (by omega)) (by first | assumption | (exact ix_of (by omega) (by omega)) | (exact ⟨by decide, rfl, by decide⟩)) ?_ ?_
    · intro z183
      refine b_179_211 _ _ _ _ _ _ (by first | (exact hd_9) | assumption) (by omega) (by exact mL_get (by decide)) (by first | (exact hd_I (by omega) rfl) | assumption) (Or.inl (by omega)) (by first | assumption | (exact ix_of (by omega) (by omega)) | (exact ⟨by decide, rfl, by decide⟩)) ?_ ?_
      · intro z211
        exact absurd (h0 l2) z211
      · intro z211
        refine b_179_222 _ _ _ ?_ ?_
        · intro z222
          refine b_179_233 _ _ _ ?_
          refine b_179_301 _ _ _ (by first | assumption | (exact mL_get (by decide)) | (rw [mL_len]; decide) | (simp only [mL_set]; exact mL_get (by decide)) | (simp only [mL_set, mL_len]; decide) | (exact va_eq) | (exact (va_ne (by omega)).trans (by assumption)) | (exact (va_ne (by omega)).trans va_eq) | (exact (va_ne (by omega)).trans ((va_ne (by omega)).trans (by assumption))) | (exact (va_ne (by omega)).trans ((va_ne (by omega)).trans ((va_ne (by omega)).trans (by assumption)))) | rfl | (exact Or.inl rfl) | (exact Or.inr rfl) | omega | (exact Nat.le_of_ble_eq_true rfl) | decide | (exact ⟨by decide, rfl, by decide⟩)) ?_
          have hc : mv_cmp 29 r1 r2 = false := decide_eq_false (p := r2 < r1) (fun h => absurd (lg_le.mp z222) (Int64.not_le.mpr h))
          refine K _ _ (by decide) (cvo_2 (F := fun u w => some (mv_cmp 29 u w)) c1 c2 (fun e => e) (fun u w _ _ e1 e2 hl => ?_))
          subst e1 e2
          rw [hl]
          exact ⟨rfl, by show (0 : Int32) = cvt (mv_cmp 29 r1 r2); rw [hc]; rfl⟩
        · intro z222
          refine b_179_229 _ _ _ ?_
          refine b_179_301 _ _ _ (by first | assumption | (exact mL_get (by decide)) | (rw [mL_len]; decide) | (simp only [mL_set]; exact mL_get (by decide)) | (simp only [mL_set, mL_len]; decide) | (exact va_eq) | (exact (va_ne (by omega)).trans (by assumption)) | (exact (va_ne (by omega)).trans va_eq) | (exact (va_ne (by omega)).trans ((va_ne (by omega)).trans (by assumption))) | (exact (va_ne (by omega)).trans ((va_ne (by omega)).trans ((va_ne (by omega)).trans (by assumption)))) | rfl | (exact Or.inl rfl) | (exact Or.inr rfl) | omega | (exact Nat.le_of_ble_eq_true rfl) | decide | (exact ⟨by decide, rfl, by decide⟩)) ?_
          have hc : mv_cmp 29 r1 r2 = true := decide_eq_true (p := r2 < r1) (Classical.not_not.mp (fun h => z222 (lg_le.mpr (Int64.not_lt.mp h))))
          refine K _ _ (by decide) (cvo_2 (F := fun u w => some (mv_cmp 29 u w)) c1 c2 (fun e => e) (fun u w _ _ e1 e2 hl => ?_))
          subst e1 e2
          rw [hl]
          exact ⟨rfl, by show (1 : Int32) = cvt (mv_cmp 29 r1 r2); rw [hc]; rfl⟩
    · intro z183
      exact absurd (Classical.not_not.mp z183) (by rw [h0 l2]; decide)
  · intro z0
    exact absurd rfl z0
theorem g_t30 {A B D x y z : Nat} {v : Int64} {q : Nat × Nat} (hn : 575 ≤ n) (hR : gRk n b p N tb S lo hi) (hm : m < N) (IV : gIV n sl f0 b N tb S lo hi k) (IT : gIT n sl f0 b N tb S lo hi k) (he : k ≤ e) (hcm : tb m = (30, A, B, D, v, x, y, z, q)) (hok : mz_ok tb N (k + 1) 2 m) (K : ∀ r l', (r = 0 ∨ r = 1) → cvo cvt (mv_t S (mv_E tb S lo hi k) (30, A, B, D, v, x, y, z, q)) false r l' → Q (.inl (some (.int r))) (n, sl, hd (gvL b l') f0)) : mi_W (e + 3) 179 0 (mi_en 6 [.ref 505, .int (Int32.ofNat m)]) [] (n, sl, hd (gvL b false) f0) Q := by
  obtain ⟨hS, hps, hpn, ⟨hlo, hhi⟩, hN8, hrg, hSo, hto⟩ := hR
  have hpo := hS.1
  obtain ⟨-, -, had, hx, -, hy, hz⟩ := hok
  have hrow := hrg m hm
  rw [hcm] at had hx hy hz hrow
  unfold mz_ad at had
  unfold gRow at hrow
  dsimp only at had hx hy hz hrow
  obtain ⟨w0, w1, w2, w3, w4, w5, w6, -, w8, w9, w10, w11, -⟩ := hrow
  have hix := ix_of (w := m) (m := 800) (by omega) (by omega)
  have h0 : ∀ l, (gvL b l).I 509 m = 30 := fun _ => w0
  have hxk : mz_ok tb N k 1 x := (hx (by decide)).2
  have ha : ∀ l, (gvL b l).I 510 m = Int32.ofNat x := fun _ => w6 (by decide)
  have hyk : mz_ok tb N k 1 y := (hy (by decide)).2
  have hb : ∀ l, (gvL b l).I 511 m = Int32.ofNat y := fun _ => w10 (by decide)
  refine b_179_0 _ _ _ (by first | (exact hd_9) | assumption) (by omega) (by exact mL_get (by decide)) ?_ ?_
  · intro z0
    refine b_179_9 (t16 := 162) _ _ _ _ _ _ (by first | (exact hd_9) | assumption) (by omega) (by exact mL_get (by decide)) (by first | (exact hd_I (by omega) rfl) | assumption) (Or.inl (by omega)) (by first | assumption | (exact ix_of (by omega) (by omega)) | (exact ⟨by decide, rfl, by decide⟩)) (by rw [h0]; decide +kernel) ?_
    refine b_179_162 _ _ _ _ _ _ (by first | (exact hd_9) | assumption) (by omega) (by exact mL_get (by decide)) (by first | (exact hd_I (by omega) rfl) | assumption) (Or.inl (by omega)) (by first | assumption | (exact ix_of (by omega) (by omega)) | (exact ⟨by decide, rfl, by decide⟩)) (by first | (exact hd_9) | assumption) (by omega) ?_
    rw [ha]
    refine IV x _ false _ (by omega) hxk (fun r1 l1 c1 => ?_)
    refine b_179_172 _ _ _ _ _ _ (by first | (exact hd_9) | assumption) (by omega) (by exact mL_get (by decide)) (by first | (exact hd_I (by omega) rfl) | assumption) (Or.inl (by omega)) (by first | assumption | (exact ix_of (by omega) (by omega)) | (exact ⟨by decide, rfl, by decide⟩)) (by first | (exact hd_9) | assumption) (by omega) ?_
    rw [hb]
    refine IV y _ l1 _ (by omega) hyk (fun r2 l2 c2 => ?_)
    refine b_179_183 _ _ _ _ _ _ (by first | (exact hd_9) | assumption) (by omega) (by exact mL_get (by decide)) (by first | (exact hd_I (by omega) rfl) | assumption) (Or.inl (by omega)) (by first | assumption | (exact ix_of (by omega) (by omega)) | (exact ⟨by decide, rfl, by decide⟩)) ?_ ?_
    · intro z183
      refine b_179_211 _ _ _ _ _ _ (by first | (exact hd_9) | assumption) (by omega) (by exact mL_get (by decide)) (by first | (exact hd_I (by omega) rfl) | assumption) (Or.inl (by omega)) (by first | assumption | (exact ix_of (by omega) (by omega)) | (exact ⟨by decide, rfl, by decide⟩)) ?_ ?_
      · intro z211
        refine b_179_237 _ _ _ _ _ _ (by first | (exact hd_9) | assumption) (by omega) (by exact mL_get (by decide)) (by first | (exact hd_I (by omega) rfl) | assumption) (Or.inl (by omega)) (by first | assumption | (exact ix_of (by omega) (by omega)) | (exact ⟨by decide, rfl, by decide⟩)) ?_ ?_
        · intro z237
          exact absurd (h0 l2) z237
        · intro z237
          refine b_179_248 _ _ _ ?_ ?_
          · intro z248
            refine b_179_259 _ _ _ ?_
            refine b_179_301 _ _ _ (by first | assumption | (exact mL_get (by decide)) | (rw [mL_len]; decide) | (simp only [mL_set]; exact mL_get (by decide)) | (simp only [mL_set, mL_len]; decide) | (exact va_eq) | (exact (va_ne (by omega)).trans (by assumption)) | (exact (va_ne (by omega)).trans va_eq) | (exact (va_ne (by omega)).trans ((va_ne (by omega)).trans (by assumption))) | (exact (va_ne (by omega)).trans ((va_ne (by omega)).trans ((va_ne (by omega)).trans (by assumption)))) | rfl | (exact Or.inl rfl) | (exact Or.inr rfl) | omega | (exact Nat.le_of_ble_eq_true rfl) | decide | (exact ⟨by decide, rfl, by decide⟩)) ?_
            have hc : mv_cmp 30 r1 r2 = false := decide_eq_false (p := r1 ≤ r2) (fun h => absurd (lg_gt.mp z248) (Int64.not_lt.mpr h))
            refine K _ _ (by decide) (cvo_2 (F := fun u w => some (mv_cmp 30 u w)) c1 c2 (fun e => e) (fun u w _ _ e1 e2 hl => ?_))
            subst e1 e2
            rw [hl]
            exact ⟨rfl, by show (0 : Int32) = cvt (mv_cmp 30 r1 r2); rw [hc]; rfl⟩
          · intro z248
            refine b_179_255 _ _ _ ?_
            refine b_179_301 _ _ _ (by first | assumption | (exact mL_get (by decide)) | (rw [mL_len]; decide) | (simp only [mL_set]; exact mL_get (by decide)) | (simp only [mL_set, mL_len]; decide) | (exact va_eq) | (exact (va_ne (by omega)).trans (by assumption)) | (exact (va_ne (by omega)).trans va_eq) | (exact (va_ne (by omega)).trans ((va_ne (by omega)).trans (by assumption))) | (exact (va_ne (by omega)).trans ((va_ne (by omega)).trans ((va_ne (by omega)).trans (by assumption)))) | rfl | (exact Or.inl rfl) | (exact Or.inr rfl) | omega | (exact Nat.le_of_ble_eq_true rfl) | decide | (exact ⟨by decide, rfl, by decide⟩)) ?_
            have hc : mv_cmp 30 r1 r2 = true := decide_eq_true (p := r1 ≤ r2) (Classical.not_not.mp (fun h => z248 (lg_gt.mpr (Int64.not_le.mp h))))
            refine K _ _ (by decide) (cvo_2 (F := fun u w => some (mv_cmp 30 u w)) c1 c2 (fun e => e) (fun u w _ _ e1 e2 hl => ?_))
            subst e1 e2
            rw [hl]
            exact ⟨rfl, by show (1 : Int32) = cvt (mv_cmp 30 r1 r2); rw [hc]; rfl⟩
      · intro z211
        exact absurd (Classical.not_not.mp z211) (by rw [h0 l2]; decide)
    · intro z183
      exact absurd (Classical.not_not.mp z183) (by rw [h0 l2]; decide)
  · intro z0
    exact absurd rfl z0
theorem g_t31 {A B D x y z : Nat} {v : Int64} {q : Nat × Nat} (hn : 575 ≤ n) (hR : gRk n b p N tb S lo hi) (hm : m < N) (IV : gIV n sl f0 b N tb S lo hi k) (IT : gIT n sl f0 b N tb S lo hi k) (he : k ≤ e) (hcm : tb m = (31, A, B, D, v, x, y, z, q)) (hok : mz_ok tb N (k + 1) 2 m) (K : ∀ r l', (r = 0 ∨ r = 1) → cvo cvt (mv_t S (mv_E tb S lo hi k) (31, A, B, D, v, x, y, z, q)) false r l' → Q (.inl (some (.int r))) (n, sl, hd (gvL b l') f0)) : mi_W (e + 3) 179 0 (mi_en 6 [.ref 505, .int (Int32.ofNat m)]) [] (n, sl, hd (gvL b false) f0) Q := by
  obtain ⟨hS, hps, hpn, ⟨hlo, hhi⟩, hN8, hrg, hSo, hto⟩ := hR
  have hpo := hS.1
  obtain ⟨-, -, had, hx, -, hy, hz⟩ := hok
  have hrow := hrg m hm
  rw [hcm] at had hx hy hz hrow
  unfold mz_ad at had
  unfold gRow at hrow
  dsimp only at had hx hy hz hrow
  obtain ⟨w0, w1, w2, w3, w4, w5, w6, -, w8, w9, w10, w11, -⟩ := hrow
  have hix := ix_of (w := m) (m := 800) (by omega) (by omega)
  have h0 : ∀ l, (gvL b l).I 509 m = 31 := fun _ => w0
  have hxk : mz_ok tb N k 1 x := (hx (by decide)).2
  have ha : ∀ l, (gvL b l).I 510 m = Int32.ofNat x := fun _ => w6 (by decide)
  have hyk : mz_ok tb N k 1 y := (hy (by decide)).2
  have hb : ∀ l, (gvL b l).I 511 m = Int32.ofNat y := fun _ => w10 (by decide)
  refine b_179_0 _ _ _ (by first | (exact hd_9) | assumption) (by omega) (by exact mL_get (by decide)) ?_ ?_
  · intro z0
    refine b_179_9 (t16 := 162) _ _ _ _ _ _ (by first | (exact hd_9) | assumption) (by omega) (by exact mL_get (by decide)) (by first | (exact hd_I (by omega) rfl) | assumption) (Or.inl (by omega)) (by first | assumption | (exact ix_of (by omega) (by omega)) | (exact ⟨by decide, rfl, by decide⟩)) (by rw [h0]; decide +kernel) ?_
    refine b_179_162 _ _ _ _ _ _ (by first | (exact hd_9) | assumption) (by omega) (by exact mL_get (by decide)) (by first | (exact hd_I (by omega) rfl) | assumption) (Or.inl (by omega)) (by first | assumption | (exact ix_of (by omega) (by omega)) | (exact ⟨by decide, rfl, by decide⟩)) (by first | (exact hd_9) | assumption) (by omega) ?_
    rw [ha]
    refine IV x _ false _ (by omega) hxk (fun r1 l1 c1 => ?_)
    refine b_179_172 _ _ _ _ _ _ (by first | (exact hd_9) | assumption) (by omega) (by exact mL_get (by decide)) (by first | (exact hd_I (by omega) rfl) | assumption) (Or.inl (by omega)) (by first | assumption | (exact ix_of (by omega) (by omega)) | (exact ⟨by decide, rfl, by decide⟩)) (by first | (exact hd_9) | assumption) (by omega) ?_
    rw [hb]
    refine IV y _ l1 _ (by omega) hyk (fun r2 l2 c2 => ?_)
    refine b_179_183 _ _ _ _ _ _ (by first | (exact hd_9) | assumption) (by omega) (by exact mL_get (by decide)) (by first | (exact hd_I (by omega) rfl) | assumption) (Or.inl (by omega)) (by first | assumption | (exact ix_of (by omega) (by omega)) | (exact ⟨by decide, rfl, by decide⟩)) ?_ ?_
    · intro z183
      refine b_179_211 _ _ _ _ _ _ (by first | (exact hd_9) | assumption) (by omega) (by exact mL_get (by decide)) (by first | (exact hd_I (by omega) rfl) | assumption) (Or.inl (by omega)) (by first | assumption | (exact ix_of (by omega) (by omega)) | (exact ⟨by decide, rfl, by decide⟩)) ?_ ?_
      · intro z211
        refine b_179_237 _ _ _ _ _ _ (by first | (exact hd_9) | assumption) (by omega) (by exact mL_get (by decide)) (by first | (exact hd_I (by omega) rfl) | assumption) (Or.inl (by omega)) (by first | assumption | (exact ix_of (by omega) (by omega)) | (exact ⟨by decide, rfl, by decide⟩)) ?_ ?_
        · intro z237
          refine b_179_263 _ _ _ _ _ _ (by first | (exact hd_9) | assumption) (by omega) (by exact mL_get (by decide)) (by first | (exact hd_I (by omega) rfl) | assumption) (Or.inl (by omega)) (by first | assumption | (exact ix_of (by omega) (by omega)) | (exact ⟨by decide, rfl, by decide⟩)) ?_ ?_
          · intro z263
            exact absurd (h0 l2) z263
          · intro z263
            refine b_179_274 _ _ _ ?_ ?_
            · intro z274
              refine b_179_285 _ _ _ ?_
              refine b_179_301 _ _ _ (by first | assumption | (exact mL_get (by decide)) | (rw [mL_len]; decide) | (simp only [mL_set]; exact mL_get (by decide)) | (simp only [mL_set, mL_len]; decide) | (exact va_eq) | (exact (va_ne (by omega)).trans (by assumption)) | (exact (va_ne (by omega)).trans va_eq) | (exact (va_ne (by omega)).trans ((va_ne (by omega)).trans (by assumption))) | (exact (va_ne (by omega)).trans ((va_ne (by omega)).trans ((va_ne (by omega)).trans (by assumption)))) | rfl | (exact Or.inl rfl) | (exact Or.inr rfl) | omega | (exact Nat.le_of_ble_eq_true rfl) | decide | (exact ⟨by decide, rfl, by decide⟩)) ?_
              have hc : mv_cmp 31 r1 r2 = false := decide_eq_false (p := r1 < r2) (fun h => absurd h (lg_ge.mp z274))
              refine K _ _ (by decide) (cvo_2 (F := fun u w => some (mv_cmp 31 u w)) c1 c2 (fun e => e) (fun u w _ _ e1 e2 hl => ?_))
              subst e1 e2
              rw [hl]
              exact ⟨rfl, by show (0 : Int32) = cvt (mv_cmp 31 r1 r2); rw [hc]; rfl⟩
            · intro z274
              refine b_179_281 _ _ _ ?_
              refine b_179_301 _ _ _ (by first | assumption | (exact mL_get (by decide)) | (rw [mL_len]; decide) | (simp only [mL_set]; exact mL_get (by decide)) | (simp only [mL_set, mL_len]; decide) | (exact va_eq) | (exact (va_ne (by omega)).trans (by assumption)) | (exact (va_ne (by omega)).trans va_eq) | (exact (va_ne (by omega)).trans ((va_ne (by omega)).trans (by assumption))) | (exact (va_ne (by omega)).trans ((va_ne (by omega)).trans ((va_ne (by omega)).trans (by assumption)))) | rfl | (exact Or.inl rfl) | (exact Or.inr rfl) | omega | (exact Nat.le_of_ble_eq_true rfl) | decide | (exact ⟨by decide, rfl, by decide⟩)) ?_
              have hc : mv_cmp 31 r1 r2 = true := decide_eq_true (p := r1 < r2) (Classical.not_not.mp (fun h => z274 (lg_ge.mpr h)))
              refine K _ _ (by decide) (cvo_2 (F := fun u w => some (mv_cmp 31 u w)) c1 c2 (fun e => e) (fun u w _ _ e1 e2 hl => ?_))
              subst e1 e2
              rw [hl]
              exact ⟨rfl, by show (1 : Int32) = cvt (mv_cmp 31 r1 r2); rw [hc]; rfl⟩
        · intro z237
          exact absurd (Classical.not_not.mp z237) (by rw [h0 l2]; decide)
      · intro z211
        exact absurd (Classical.not_not.mp z211) (by rw [h0 l2]; decide)
    · intro z183
      exact absurd (Classical.not_not.mp z183) (by rw [h0 l2]; decide)
  · intro z0
    exact absurd rfl z0
theorem g_t32 {A B D x y z : Nat} {v : Int64} {q : Nat × Nat} (hn : 575 ≤ n) (hR : gRk n b p N tb S lo hi) (hm : m < N) (IV : gIV n sl f0 b N tb S lo hi k) (IT : gIT n sl f0 b N tb S lo hi k) (he : k ≤ e) (hcm : tb m = (32, A, B, D, v, x, y, z, q)) (hok : mz_ok tb N (k + 1) 2 m) (K : ∀ r l', (r = 0 ∨ r = 1) → cvo cvt (mv_t S (mv_E tb S lo hi k) (32, A, B, D, v, x, y, z, q)) false r l' → Q (.inl (some (.int r))) (n, sl, hd (gvL b l') f0)) : mi_W (e + 3) 179 0 (mi_en 6 [.ref 505, .int (Int32.ofNat m)]) [] (n, sl, hd (gvL b false) f0) Q := by
  obtain ⟨hS, hps, hpn, ⟨hlo, hhi⟩, hN8, hrg, hSo, hto⟩ := hR
  have hpo := hS.1
  obtain ⟨-, -, had, hx, -, hy, hz⟩ := hok
  have hrow := hrg m hm
  rw [hcm] at had hx hy hz hrow
  unfold mz_ad at had
  unfold gRow at hrow
  dsimp only at had hx hy hz hrow
  obtain ⟨w0, w1, w2, w3, w4, w5, w6, -, w8, w9, w10, w11, -⟩ := hrow
  have hix := ix_of (w := m) (m := 800) (by omega) (by omega)
  have h0 : ∀ l, (gvL b l).I 509 m = 32 := fun _ => w0
  have hxk : mz_ok tb N k 1 x := (hx (by decide)).2
  have ha : ∀ l, (gvL b l).I 510 m = Int32.ofNat x := fun _ => w6 (by decide)
  have hyk : mz_ok tb N k 1 y := (hy (by decide)).2
  have hb : ∀ l, (gvL b l).I 511 m = Int32.ofNat y := fun _ => w10 (by decide)
  refine b_179_0 _ _ _ (by first | (exact hd_9) | assumption) (by omega) (by exact mL_get (by decide)) ?_ ?_
  · intro z0
    refine b_179_9 (t16 := 162) _ _ _ _ _ _ (by first | (exact hd_9) | assumption) (by omega) (by exact mL_get (by decide)) (by first | (exact hd_I (by omega) rfl) | assumption) (Or.inl (by omega)) (by first | assumption | (exact ix_of (by omega) (by omega)) | (exact ⟨by decide, rfl, by decide⟩)) (by rw [h0]; decide +kernel) ?_
    refine b_179_162 _ _ _ _ _ _ (by first | (exact hd_9) | assumption) (by omega) (by exact mL_get (by decide)) (by first | (exact hd_I (by omega) rfl) | assumption) (Or.inl (by omega)) (by first | assumption | (exact ix_of (by omega) (by omega)) | (exact ⟨by decide, rfl, by decide⟩)) (by first | (exact hd_9) | assumption) (by omega) ?_
    rw [ha]
    refine IV x _ false _ (by omega) hxk (fun r1 l1 c1 => ?_)
    refine b_179_172 _ _ _ _ _ _ (by first | (exact hd_9) | assumption) (by omega) (by exact mL_get (by decide)) (by first | (exact hd_I (by omega) rfl) | assumption) (Or.inl (by omega)) (by first | assumption | (exact ix_of (by omega) (by omega)) | (exact ⟨by decide, rfl, by decide⟩)) (by first | (exact hd_9) | assumption) (by omega) ?_
    rw [hb]
    refine IV y _ l1 _ (by omega) hyk (fun r2 l2 c2 => ?_)
    refine b_179_183 _ _ _ _ _ _ (by first | (exact hd_9) | assumption) (by omega) (by exact mL_get (by decide)) (by first | (exact hd_I (by omega) rfl) | assumption) (Or.inl (by omega)) (by first | assumption | (exact ix_of (by omega) (by omega)) | (exact ⟨by decide, rfl, by decide⟩)) ?_ ?_
    · intro z183
      refine b_179_211 _ _ _ _ _ _ (by first | (exact hd_9) | assumption) (by omega) (by exact mL_get (by decide)) (by first | (exact hd_I (by omega) rfl) | assumption) (Or.inl (by omega)) (by first | assumption | (exact ix_of (by omega) (by omega)) | (exact ⟨by decide, rfl, by decide⟩)) ?_ ?_
      · intro z211
        refine b_179_237 _ _ _ _ _ _ (by first | (exact hd_9) | assumption) (by omega) (by exact mL_get (by decide)) (by first | (exact hd_I (by omega) rfl) | assumption) (Or.inl (by omega)) (by first | assumption | (exact ix_of (by omega) (by omega)) | (exact ⟨by decide, rfl, by decide⟩)) ?_ ?_
        · intro z237
          refine b_179_263 _ _ _ _ _ _ (by first | (exact hd_9) | assumption) (by omega) (by exact mL_get (by decide)) (by first | (exact hd_I (by omega) rfl) | assumption) (Or.inl (by omega)) (by first | assumption | (exact ix_of (by omega) (by omega)) | (exact ⟨by decide, rfl, by decide⟩)) ?_ ?_
          · intro z263
            refine b_179_289 _ _ _ ?_ ?_
            · intro z289
              refine b_179_300 _ _ _ ?_
              refine b_179_301 _ _ _ (by first | assumption | (exact mL_get (by decide)) | (rw [mL_len]; decide) | (simp only [mL_set]; exact mL_get (by decide)) | (simp only [mL_set, mL_len]; decide) | (exact va_eq) | (exact (va_ne (by omega)).trans (by assumption)) | (exact (va_ne (by omega)).trans va_eq) | (exact (va_ne (by omega)).trans ((va_ne (by omega)).trans (by assumption))) | (exact (va_ne (by omega)).trans ((va_ne (by omega)).trans ((va_ne (by omega)).trans (by assumption)))) | rfl | (exact Or.inl rfl) | (exact Or.inr rfl) | omega | (exact Nat.le_of_ble_eq_true rfl) | decide | (exact ⟨by decide, rfl, by decide⟩)) ?_
              have hc : mv_cmp 32 r1 r2 = false := decide_eq_false (p := r1 = r2) (fun h => z289 (lg_e.mpr h))
              refine K _ _ (by decide) (cvo_2 (F := fun u w => some (mv_cmp 32 u w)) c1 c2 (fun e => e) (fun u w _ _ e1 e2 hl => ?_))
              subst e1 e2
              rw [hl]
              exact ⟨rfl, by show (0 : Int32) = cvt (mv_cmp 32 r1 r2); rw [hc]; rfl⟩
            · intro z289
              refine b_179_296 _ _ _ ?_
              refine b_179_301 _ _ _ (by first | assumption | (exact mL_get (by decide)) | (rw [mL_len]; decide) | (simp only [mL_set]; exact mL_get (by decide)) | (simp only [mL_set, mL_len]; decide) | (exact va_eq) | (exact (va_ne (by omega)).trans (by assumption)) | (exact (va_ne (by omega)).trans va_eq) | (exact (va_ne (by omega)).trans ((va_ne (by omega)).trans (by assumption))) | (exact (va_ne (by omega)).trans ((va_ne (by omega)).trans ((va_ne (by omega)).trans (by assumption)))) | rfl | (exact Or.inl rfl) | (exact Or.inr rfl) | omega | (exact Nat.le_of_ble_eq_true rfl) | decide | (exact ⟨by decide, rfl, by decide⟩)) ?_
              have hc : mv_cmp 32 r1 r2 = true := decide_eq_true (p := r1 = r2) (Classical.not_not.mp (fun h => z289 (fun e => h (lg_e.mp e))))
              refine K _ _ (by decide) (cvo_2 (F := fun u w => some (mv_cmp 32 u w)) c1 c2 (fun e => e) (fun u w _ _ e1 e2 hl => ?_))
              subst e1 e2
              rw [hl]
              exact ⟨rfl, by show (1 : Int32) = cvt (mv_cmp 32 r1 r2); rw [hc]; rfl⟩
          · intro z263
            exact absurd (Classical.not_not.mp z263) (by rw [h0 l2]; decide)
        · intro z237
          exact absurd (Classical.not_not.mp z237) (by rw [h0 l2]; decide)
      · intro z211
        exact absurd (Classical.not_not.mp z211) (by rw [h0 l2]; decide)
    · intro z183
      exact absurd (Classical.not_not.mp z183) (by rw [h0 l2]; decide)
  · intro z0
    exact absurd rfl z0
theorem g_E (hn : 575 ≤ n) (hR : gRk n b p N tb S lo hi) : ∀ k, k ≤ 100 → gIV n sl f0 b N tb S lo hi k ∧ gIT n sl f0 b N tb S lo hi k := by
  intro k
  induction k with
  | zero => exact fun _ => ⟨fun _ _ _ _ _ h _ => h.elim, fun _ _ _ _ _ h _ => h.elim⟩
  | succ k ih =>
    intro hk
    obtain ⟨IV, IT⟩ := ih (by omega)
    refine ⟨?_, ?_⟩
    · intro m d l Q hdd ok K
      obtain ⟨e, rfl⟩ : ∃ e', d = e' + 3 := ⟨d - 3, by omega⟩
      have hm : m < N := ok.1
      have hso := ok.2.1
      have h33 := mz_so33 hso (by decide)
      cases l with
      | true => exact g_vl hn (K 0 true rfl)
      | false =>
        have K' : ∀ r l', cvo id (mv_v S lo hi (mv_E tb S lo hi k) (tb m)) false r l' → Q (.inl (some (.long r))) (n, sl, hd (gvL b l') f0) := K
        rcases hcm : tb m with ⟨op, A, B, D, v, x, y, z, q⟩
        rw [hcm] at K' hso h33
        have ho := mz_so1 ⟨op, h33⟩ hso
        dsimp only at ho
        rcases ho with rfl | rfl | rfl | rfl | rfl | rfl | rfl | rfl | rfl | rfl | rfl | rfl
        · exact g_v10 hn hR hm IV IT (by omega) hcm ok K'
        · exact g_v11 hn hR hm IV IT (by omega) hcm ok K'
        · exact g_v12 hn hR hm IV IT (by omega) hcm ok K'
        · exact g_v13 hn hR hm IV IT (by omega) hcm ok K'
        · exact g_v14 hn hR hm IV IT (by omega) hcm ok K'
        · exact g_v15 hn hR hm IV IT (by omega) hcm ok K'
        · exact g_v16 hn hR hm IV IT (by omega) hcm ok K'
        · exact g_v17 hn hR hm IV IT (by omega) hcm ok K'
        · exact g_v18 hn hR hm IV IT (by omega) hcm ok K'
        · exact g_v19 hn hR hm IV IT (by omega) hcm ok K'
        · exact g_v20 hn hR hm IV IT (by omega) hcm ok K'
        · exact g_v21 hn hR hm IV IT (by omega) hcm ok K'
    · intro m d l Q hdd ok K
      obtain ⟨e, rfl⟩ : ∃ e', d = e' + 3 := ⟨d - 3, by omega⟩
      have hm : m < N := ok.1
      have hso := ok.2.1
      have h33 := mz_so33 hso (by decide)
      cases l with
      | true => exact g_tl hn (K 0 true (Or.inl rfl) rfl)
      | false =>
        have K' : ∀ r l', (r = 0 ∨ r = 1) → cvo cvt (mv_t S (mv_E tb S lo hi k) (tb m)) false r l' → Q (.inl (some (.int r))) (n, sl, hd (gvL b l') f0) := K
        rcases hcm : tb m with ⟨op, A, B, D, v, x, y, z, q⟩
        rw [hcm] at K' hso h33
        have ho := mz_so2 ⟨op, h33⟩ hso
        dsimp only at ho
        rcases ho with rfl | rfl | rfl | rfl | rfl | rfl | rfl | rfl | rfl | rfl | rfl
        · exact g_t22 hn hR hm IV IT (by omega) hcm ok K'
        · exact g_t23 hn hR hm IV IT (by omega) hcm ok K'
        · exact g_t24 hn hR hm IV IT (by omega) hcm ok K'
        · exact g_t25 hn hR hm IV IT (by omega) hcm ok K'
        · exact g_t26 hn hR hm IV IT (by omega) hcm ok K'
        · exact g_t27 hn hR hm IV IT (by omega) hcm ok K'
        · exact g_t28 hn hR hm IV IT (by omega) hcm ok K'
        · exact g_t29 hn hR hm IV IT (by omega) hcm ok K'
        · exact g_t30 hn hR hm IV IT (by omega) hcm ok K'
        · exact g_t31 hn hR hm IV IT (by omega) hcm ok K'
        · exact g_t32 hn hR hm IV IT (by omega) hcm ok K'
end
