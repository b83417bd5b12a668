/-! the first object's reading: the actions of a when -/
section
variable {d e n sl m kt mt j : Nat} {a a0 a1 : mh_A} {σ σ0 σ1 : ms_S} {f0 : Nat → mi_C} {Q : (Option Value ⊕ Nat) → mi_H → Prop} {g : Nat → Int32} {L : Nat} {v : Int64} {R : Nat → Int32} {x : Int32}
theorem ms_oa_s {k op : Nat} (h : ms_oa k = some op) : k = 8 ∧ op = 7 ∨ k = 9 ∧ op = 8 ∨ k = 10 ∧ op = 9 := by
  unfold ms_oa at h
  split at h
  · rename_i e
    exact Or.inl ⟨e, (Option.some.inj h).symm⟩
  · split at h
    · rename_i e
      exact Or.inr (Or.inl ⟨e, (Option.some.inj h).symm⟩)
    · split at h
      · rename_i e
        exact Or.inr (Or.inr ⟨e, (Option.some.inj h).symm⟩)
      · cases h
theorem ms_oa_n {k : Nat} (h8 : ¬ k = 8) (h9 : ¬ k = 9) (h10 : ¬ k = 10) : ms_oa k = none := by
  unfold ms_oa
  rw [if_neg (show ¬ k = ms_kc 24 from h8), if_neg (show ¬ k = ms_kc 25 from h9), if_neg (show ¬ k = ms_kc 26 from h10)]
theorem cn_actf {l2 l4 : Int32} (hG : cG n sl f0) (hl2 : l4 + 1 = Int32.ofNat (101 - j)) (hd : 2 * j + 3 ≤ e) (IHE : cIE n sl f0 g L j) (IHC : cIC n sl f0 g L j) (h : cst a g L σ0) (hmt : mt < σ0.n) (ok : ∀ op, ms_oa σ0.t.k = some op → cokA n sl f0 g L Q a σ0 j op 1 mt) (er : ∀ op, ¬ σ0.n = 800 → ms_oa σ0.t.k = some op → cerA n sl f0 g L Q a σ0 j op) (er0 : ms_oa σ0.t.k = none ∨ σ0.n = 800 → cEr n sl f0 Q a σ0.t.a) : mi_W (e + 10) 51 0 (mi_en 6 [.ref 15, .int (Int32.ofNat mt), .int (-1), .int l4]) [] (n, sl, hc a f0) Q := by
  have hn := hG.1
  have h40 := h.1.k40
  have h2 := h.1.2.2.2.1
  have e5 := h.1.2.2.2.2.1
  refine b_51_0 _ _ _ (by first | (exact hc_o (by first | assumption | (exact ⟨by decide, rfl⟩))) | assumption | (exact (hc_far (by omega)).trans (by assumption))) (by omega) (by first | rfl | assumption) (by first | (exact hc_o (by first | assumption | (exact ⟨by decide, rfl⟩))) | assumption | (exact (hc_far (by omega)).trans (by assumption))) (by omega) (by first | rfl | assumption) ?_ ?_
  · intro z0
    have hk : σ0.t.k = 8 := (i_eq (b := 8) h2 rfl (by omega) (by omega)).mp z0
    rw [h2]
    refine b_51_31 _ _ _ ?_
    refine b_51_36 _ _ _ (by first | (exact hc_o (by first | assumption | (exact ⟨by decide, rfl⟩))) | assumption | (exact (hc_far (by omega)).trans (by assumption))) (by omega) ?_
    refine cr_re1 hn hG.2.1 ?_
    by_cases h8 : σ0.n = 800
    · skip
      refine b_51_39 _ _ _ (by first | (exact hc_o (by first | assumption | (exact ⟨by decide, rfl⟩))) | assumption | (exact (hc_far (by omega)).trans (by assumption))) (by omega) ?_
      refine cr_node (d := e + 2) hG h (fun h8' => ?_) (fun h8 => ?_)
      · exact absurd h8' (by omega)
      · exact cEr.kc (by decide +kernel) (by omega) (er0 (Or.inr h8))
    · rw [hk]
      first
        | exact cm_a9f (l2 := 0) hG hl2 hd IHE IHC h hk hmt (ok 9 (by rw [hk]; decide)) (er 9 h8 (by rw [hk]; decide)) (fun h => absurd h h8)
        | exact cm_a8f (l2 := 0) hG hl2 hd IHE IHC h hk hmt (ok 8 (by rw [hk]; decide)) (er 8 h8 (by rw [hk]; decide)) (fun h => absurd h h8)
        | exact cm_a7f (l2 := 0) hG hl2 hd IHE IHC h hk hmt (ok 7 (by rw [hk]; decide)) (er 7 h8 (by rw [hk]; decide)) (fun h => absurd h h8)
  · intro z0
    have hk8 : ¬ σ0.t.k = 8 := fun e => z0 (by rw [h2, e]; decide)
    rw [h2]
    refine b_51_17 _ _ _ ?_ ?_
    · intro z17
      have hk : σ0.t.k = 9 := (i_eq (b := 9) rfl rfl (by omega) (by omega)).mp z17
      refine b_51_31 _ _ _ ?_
      refine b_51_36 _ _ _ (by first | (exact hc_o (by first | assumption | (exact ⟨by decide, rfl⟩))) | assumption | (exact (hc_far (by omega)).trans (by assumption))) (by omega) ?_
      refine cr_re1 hn hG.2.1 ?_
      by_cases h8 : σ0.n = 800
      · skip
        refine b_51_39 _ _ _ (by first | (exact hc_o (by first | assumption | (exact ⟨by decide, rfl⟩))) | assumption | (exact (hc_far (by omega)).trans (by assumption))) (by omega) ?_
        refine cr_node (d := e + 2) hG h (fun h8' => ?_) (fun h8 => ?_)
        · exact absurd h8' (by omega)
        · exact cEr.kc (by decide +kernel) (by omega) (er0 (Or.inr h8))
      · rw [hk]
        first
          | exact cm_a9f (l2 := 0) hG hl2 hd IHE IHC h hk hmt (ok 9 (by rw [hk]; decide)) (er 9 h8 (by rw [hk]; decide)) (fun h => absurd h h8)
          | exact cm_a8f (l2 := 0) hG hl2 hd IHE IHC h hk hmt (ok 8 (by rw [hk]; decide)) (er 8 h8 (by rw [hk]; decide)) (fun h => absurd h h8)
          | exact cm_a7f (l2 := 0) hG hl2 hd IHE IHC h hk hmt (ok 7 (by rw [hk]; decide)) (er 7 h8 (by rw [hk]; decide)) (fun h => absurd h h8)
    · intro z17
      have hk9 : ¬ σ0.t.k = 9 := fun e => z17 (by rw [e]; decide)
      refine b_51_24 _ _ _ ?_ ?_
      · intro z24
        have hk10 : ¬ σ0.t.k = 10 := fun e => z24 (by rw [e]; decide)
        refine b_51_35 _ _ _ ?_
        refine b_51_36 _ _ _ (by first | (exact hc_o (by first | assumption | (exact ⟨by decide, rfl⟩))) | assumption | (exact (hc_far (by omega)).trans (by assumption))) (by omega) ?_
        refine cr_re0 hn hG.2.1 ?_
        refine hx_c (by decide +kernel) (by omega) ?_
        exact (er0 (Or.inl (ms_oa_n hk8 hk9 hk10))).at cF.re e5
      · intro z24
        have hk : σ0.t.k = 10 := (i_eq (b := 10) rfl rfl (by omega) (by omega)).mp (Classical.not_not.mp z24)
        refine b_51_31 _ _ _ ?_
        refine b_51_36 _ _ _ (by first | (exact hc_o (by first | assumption | (exact ⟨by decide, rfl⟩))) | assumption | (exact (hc_far (by omega)).trans (by assumption))) (by omega) ?_
        refine cr_re1 hn hG.2.1 ?_
        by_cases h8 : σ0.n = 800
        · skip
          refine b_51_39 _ _ _ (by first | (exact hc_o (by first | assumption | (exact ⟨by decide, rfl⟩))) | assumption | (exact (hc_far (by omega)).trans (by assumption))) (by omega) ?_
          refine cr_node (d := e + 2) hG h (fun h8' => ?_) (fun h8 => ?_)
          · exact absurd h8' (by omega)
          · exact cEr.kc (by decide +kernel) (by omega) (er0 (Or.inr h8))
        · rw [hk]
          first
            | exact cm_a9f (l2 := 0) hG hl2 hd IHE IHC h hk hmt (ok 9 (by rw [hk]; decide)) (er 9 h8 (by rw [hk]; decide)) (fun h => absurd h h8)
            | exact cm_a8f (l2 := 0) hG hl2 hd IHE IHC h hk hmt (ok 8 (by rw [hk]; decide)) (er 8 h8 (by rw [hk]; decide)) (fun h => absurd h h8)
            | exact cm_a7f (l2 := 0) hG hl2 hd IHE IHC h hk hmt (ok 7 (by rw [hk]; decide)) (er 7 h8 (by rw [hk]; decide)) (fun h => absurd h h8)
theorem cn_actn {l2 l4 : Int32} (hG : cG n sl f0) (hl2 : l4 + 1 = Int32.ofNat (101 - j)) (hd : 2 * j + 3 ≤ e) (IHE : cIE n sl f0 g L j) (IHC : cIC n sl f0 g L j) (h : cst a g L σ0) (hmt : mt < σ0.n) (ok : ∀ op, ms_oa σ0.t.k = some op → cokA n sl f0 g L Q a σ0 j op 3 mt) (er : ∀ op, ¬ σ0.n = 800 → ms_oa σ0.t.k = some op → cerA n sl f0 g L Q a σ0 j op) (er0 : ms_oa σ0.t.k = none ∨ σ0.n = 800 → cEr n sl f0 Q a σ0.t.a) : mi_W (e + 10) 51 0 (mi_en 6 [.ref 15, .int l2, .int (Int32.ofNat mt), .int l4]) [] (n, sl, hc a f0) Q := by
  have hn := hG.1
  have h40 := h.1.k40
  have h2 := h.1.2.2.2.1
  have e5 := h.1.2.2.2.2.1
  refine b_51_0 _ _ _ (by first | (exact hc_o (by first | assumption | (exact ⟨by decide, rfl⟩))) | assumption | (exact (hc_far (by omega)).trans (by assumption))) (by omega) (by first | rfl | assumption) (by first | (exact hc_o (by first | assumption | (exact ⟨by decide, rfl⟩))) | assumption | (exact (hc_far (by omega)).trans (by assumption))) (by omega) (by first | rfl | assumption) ?_ ?_
  · intro z0
    have hk : σ0.t.k = 8 := (i_eq (b := 8) h2 rfl (by omega) (by omega)).mp z0
    rw [h2]
    refine b_51_31 _ _ _ ?_
    refine b_51_36 _ _ _ (by first | (exact hc_o (by first | assumption | (exact ⟨by decide, rfl⟩))) | assumption | (exact (hc_far (by omega)).trans (by assumption))) (by omega) ?_
    refine cr_re1 hn hG.2.1 ?_
    by_cases h8 : σ0.n = 800
    · skip
      refine b_51_39 _ _ _ (by first | (exact hc_o (by first | assumption | (exact ⟨by decide, rfl⟩))) | assumption | (exact (hc_far (by omega)).trans (by assumption))) (by omega) ?_
      refine cr_node (d := e + 2) hG h (fun h8' => ?_) (fun h8 => ?_)
      · exact absurd h8' (by omega)
      · exact cEr.kc (by decide +kernel) (by omega) (er0 (Or.inr h8))
    · rw [hk]
      first
        | exact cm_a9n hG hl2 hd IHE IHC h hk hmt (ok 9 (by rw [hk]; decide)) (er 9 h8 (by rw [hk]; decide)) (fun h => absurd h h8)
        | exact cm_a8n hG hl2 hd IHE IHC h hk hmt (ok 8 (by rw [hk]; decide)) (er 8 h8 (by rw [hk]; decide)) (fun h => absurd h h8)
        | exact cm_a7n hG hl2 hd IHE IHC h hk hmt (ok 7 (by rw [hk]; decide)) (er 7 h8 (by rw [hk]; decide)) (fun h => absurd h h8)
  · intro z0
    have hk8 : ¬ σ0.t.k = 8 := fun e => z0 (by rw [h2, e]; decide)
    rw [h2]
    refine b_51_17 _ _ _ ?_ ?_
    · intro z17
      have hk : σ0.t.k = 9 := (i_eq (b := 9) rfl rfl (by omega) (by omega)).mp z17
      refine b_51_31 _ _ _ ?_
      refine b_51_36 _ _ _ (by first | (exact hc_o (by first | assumption | (exact ⟨by decide, rfl⟩))) | assumption | (exact (hc_far (by omega)).trans (by assumption))) (by omega) ?_
      refine cr_re1 hn hG.2.1 ?_
      by_cases h8 : σ0.n = 800
      · skip
        refine b_51_39 _ _ _ (by first | (exact hc_o (by first | assumption | (exact ⟨by decide, rfl⟩))) | assumption | (exact (hc_far (by omega)).trans (by assumption))) (by omega) ?_
        refine cr_node (d := e + 2) hG h (fun h8' => ?_) (fun h8 => ?_)
        · exact absurd h8' (by omega)
        · exact cEr.kc (by decide +kernel) (by omega) (er0 (Or.inr h8))
      · rw [hk]
        first
          | exact cm_a9n hG hl2 hd IHE IHC h hk hmt (ok 9 (by rw [hk]; decide)) (er 9 h8 (by rw [hk]; decide)) (fun h => absurd h h8)
          | exact cm_a8n hG hl2 hd IHE IHC h hk hmt (ok 8 (by rw [hk]; decide)) (er 8 h8 (by rw [hk]; decide)) (fun h => absurd h h8)
          | exact cm_a7n hG hl2 hd IHE IHC h hk hmt (ok 7 (by rw [hk]; decide)) (er 7 h8 (by rw [hk]; decide)) (fun h => absurd h h8)
    · intro z17
      have hk9 : ¬ σ0.t.k = 9 := fun e => z17 (by rw [e]; decide)
      refine b_51_24 _ _ _ ?_ ?_
      · intro z24
        have hk10 : ¬ σ0.t.k = 10 := fun e => z24 (by rw [e]; decide)
        refine b_51_35 _ _ _ ?_
        refine b_51_36 _ _ _ (by first | (exact hc_o (by first | assumption | (exact ⟨by decide, rfl⟩))) | assumption | (exact (hc_far (by omega)).trans (by assumption))) (by omega) ?_
        refine cr_re0 hn hG.2.1 ?_
        refine hx_c (by decide +kernel) (by omega) ?_
        exact (er0 (Or.inl (ms_oa_n hk8 hk9 hk10))).at cF.re e5
      · intro z24
        have hk : σ0.t.k = 10 := (i_eq (b := 10) rfl rfl (by omega) (by omega)).mp (Classical.not_not.mp z24)
        refine b_51_31 _ _ _ ?_
        refine b_51_36 _ _ _ (by first | (exact hc_o (by first | assumption | (exact ⟨by decide, rfl⟩))) | assumption | (exact (hc_far (by omega)).trans (by assumption))) (by omega) ?_
        refine cr_re1 hn hG.2.1 ?_
        by_cases h8 : σ0.n = 800
        · skip
          refine b_51_39 _ _ _ (by first | (exact hc_o (by first | assumption | (exact ⟨by decide, rfl⟩))) | assumption | (exact (hc_far (by omega)).trans (by assumption))) (by omega) ?_
          refine cr_node (d := e + 2) hG h (fun h8' => ?_) (fun h8 => ?_)
          · exact absurd h8' (by omega)
          · exact cEr.kc (by decide +kernel) (by omega) (er0 (Or.inr h8))
        · rw [hk]
          first
            | exact cm_a9n hG hl2 hd IHE IHC h hk hmt (ok 9 (by rw [hk]; decide)) (er 9 h8 (by rw [hk]; decide)) (fun h => absurd h h8)
            | exact cm_a8n hG hl2 hd IHE IHC h hk hmt (ok 8 (by rw [hk]; decide)) (er 8 h8 (by rw [hk]; decide)) (fun h => absurd h h8)
            | exact cm_a7n hG hl2 hd IHE IHC h hk hmt (ok 7 (by rw [hk]; decide)) (er 7 h8 (by rw [hk]; decide)) (fun h => absurd h h8)
theorem cz_yz {c : ms_N} {y z z' k : Nat} (hk : k < 9) (h3 : ¬ k = 3) : cz_f (c.yz y z) k = cz_f (c.yz y z') k := by
  rcases lt9 hk with rfl | rfl | rfl | rfl | rfl | rfl | rfl | rfl | rfl
  · rfl
  · rfl
  · rfl
  · exact absurd rfl h3
  · rfl
  · rfl
  · rfl
  · rfl
  · rfl
theorem cz_y3 {c : ms_N} {y z : Nat} (h : c.1 = 7 ∨ c.1 = 8 ∨ c.1 = 9) : cz_f (c.yz y z) 3 = mz_lk z ∧ cz_lc (c.yz y z) = 0 := by
  unfold cz_f cz_lc
  show (if cz_3.contains c.1 = true then _ else if [3, 21].contains c.1 = true then _ else if [7, 8, 9].contains c.1 = true then mz_lk z else -1) = _ ∧ (if [12, 26].contains c.1 = true then _ else if cz_3.contains c.1 = true then _ else if [3, 21].contains c.1 = true then _ else 0) = 0
  rcases h with h | h | h <;> rw [h] <;> exact ⟨rfl, rfl⟩
theorem cRow.z {c : ms_N} {y z : Nat} {a3 : mh_A} (h : cRow a (c.yz y 0) m) (hc : c.1 = 7 ∨ c.1 = 8 ∨ c.1 = 9) (hI : ∀ k, k < 9 → a3.AI 2 3 k m = (cw 3 m (mz_lk z) a).AI 2 3 k m) (hJ : a3.AL 2 3 9 m = a.AL 2 3 9 m) : cRow a3 (c.yz y z) m := by
  have hl := (cz_y3 (y := y) (z := z) hc).2
  have hl0 := (cz_y3 (y := y) (z := 0) hc).2
  refine ⟨fun k hk h7 => ?_, hJ.trans h.2.1, ?_⟩
  · rw [hI k hk]
    by_cases e : k = 3
    · rw [e, cw_at, (cz_y3 hc).1]
    · rw [cw_ne (fun z => e z.1), h.1 k hk h7]
      exact cz_yz hk e
  · rw [hI 7 (by omega), cw_ne (fun z => absurd z.1 (by decide)), h.2.2, hl, hl0]
    rfl
theorem mz_lk_pos {z : Nat} (h : 0 < z) : mz_lk z = Int32.ofNat z := by
  unfold mz_lk
  rw [if_neg (by omega)]
theorem ms_as_s {E : Bool → ms_S → ms_R Unit} {C : ms_S → ms_R Unit} {c : Nat} : ms_as g L E C (c + 1) σ = if σ.t.k = ms_kc 52 then .ok (0, σ) else match ms_oa σ.t.k with
    | none => .error σ.t.a
    | some op => if σ.n = 800 then .error σ.t.a else ms_eb (ms_ac g L E op (σ.add.nx g L)) (fun x σ1 => ms_eb (C σ1) (fun _ σ2 => ms_eb (ms_as g L E C c σ2) (fun z σ3 => .ok (σ.n, σ3.set σ.n (x.yz σ1.n z))))) := rfl
theorem cgo.cw0 (hT : a.AI 2 3 kt mt = -1) : cgo (cw kt mt (mz_lk 0) a) σ a σ := by
  refine ⟨⟨fun c p k hc => ⟨rfl, rfl, ?_, rfl⟩, rfl, rfl, rfl⟩, fun m hm => ⟨fun k hk => ?_, rfl⟩, ⟨Nat.le_refl _, Nat.le_refl _, fun _ _ => rfl, fun _ _ => rfl⟩, rfl⟩
  · exact (mh_u_c (by omega)).symm
  · by_cases e : k = kt ∧ m = mt
    · rw [e.1, e.2, cw_at]
      exact hT
    · rw [cw_ne e]
theorem cn_as {l2 : Int32} {m0 : Nat} (hG : cG n sl f0) (hl2 : l2 + 1 = Int32.ofNat (101 - j)) (hd : 2 * j + 3 ≤ e) (IHE : cIE n sl f0 g L j) (IHC : cIC n sl f0 g L j) : ∀ (c : Nat) (a : mh_A) (σ : ms_S) (i kt mt : Nat) (l5 : Int32), i + c = 8 → (kt = 1 ∧ mt = m0 ∧ l5 = -1 ∨ kt = 3 ∧ l5 = Int32.ofNat mt) → mt < σ.n → a.AI 2 3 kt mt = -1 → cst a g L σ → (∀ z σ' a' (l5' l6' : Int32), ms_as g L (ms_E g L j) (ms_C g L j) c σ = .ok (z, σ') → σ'.t.k = 27 → cst a' g L σ' → cgo (cw kt mt (mz_lk z) a) σ a' σ' → crg σ.n σ'.n a' σ'.tb → mi_W (e + 11) 37 235 [some (.ref 15), some (.int l2), some (.int 5), some (.int (Int32.ofNat m0)), some (.int l5'), some (.int l6')] [] (n, sl, hc a' f0) Q) → (∀ w, ms_as g L (ms_E g L j) (ms_C g L j) c σ = .error w → cEr n sl f0 Q a w) → mi_W (e + 11) 37 184 [some (.ref 15), some (.int l2), some (.int 5), some (.int (Int32.ofNat m0)), some (.int l5), some (.int (Int32.ofNat i))] [] (n, sl, hc a f0) Q := by
  have hn := hG.1
  intro c
  induction c with
  | zero =>
    intro a σ i kt mt l5 hi hv hmt hT h ok er
    have h40 := h.1.k40
    have h2 := h.1.2.2.2.1
    have e5 := h.1.2.2.2.2.1
    refine b_37_184 _ _ _ ?_ ?_
    · intro z184
      exact absurd ((i_lt (a := 8) rfl rfl (by omega) (by omega)).mp z184) (by omega)
    · intro z184
      refine b_37_191 _ _ _ (by first | (exact hc_o (by first | assumption | (exact ⟨by decide, rfl⟩))) | assumption | (exact (hc_far (by omega)).trans (by assumption))) (by omega) (by first | rfl | assumption) (by first | (exact hc_o (by first | assumption | (exact ⟨by decide, rfl⟩))) | assumption | (exact (hc_far (by omega)).trans (by assumption))) (by omega) (by first | rfl | assumption) ?_ ?_
      · intro z191
        have hk : σ.t.k = 27 := (i_eq (b := 27) h2 rfl (by omega) (by omega)).mp z191
        exact ok 0 σ a _ _ (by show (if σ.t.k = ms_kc 52 then _ else _) = _; rw [if_pos (show σ.t.k = ms_kc 52 from hk)]) hk h (cgo.cw0 hT) crg.nil
      · intro z191
        refine b_37_203 _ _ _ ?_ ?_
        · intro z203
          refine b_37_215 _ _ _ ?_
          refine b_37_216 _ _ _ (by first | (exact hc_o (by first | assumption | (exact ⟨by decide, rfl⟩))) | assumption | (exact (hc_far (by omega)).trans (by assumption))) (by omega) ?_
          refine cr_re0 hn hG.2.1 ?_
          refine hx_c (by decide +kernel) (by omega) ?_
          exact (er σ.t.a (by show (if σ.t.k = ms_kc 52 then _ else _) = _; rw [if_neg (fun h => z191 (by rw [h2, h]; decide))])).at cF.re e5
        · intro z203
          exact absurd ((i_le (a := 8) rfl rfl (by omega) (by omega)).mpr (by omega)) z203
  | succ c ih =>
    intro a σ i kt mt l5 hi hv hmt hT h ok er
    have h40 := h.1.k40
    have h2 := h.1.2.2.2.1
    have e5 := h.1.2.2.2.2.1
    refine b_37_184 _ _ _ ?_ ?_
    · intro z184
      exact absurd ((i_lt (a := 8) rfl rfl (by omega) (by omega)).mp z184) (by omega)
    · intro z184
      refine b_37_191 _ _ _ (by first | (exact hc_o (by first | assumption | (exact ⟨by decide, rfl⟩))) | assumption | (exact (hc_far (by omega)).trans (by assumption))) (by omega) (by first | rfl | assumption) (by first | (exact hc_o (by first | assumption | (exact ⟨by decide, rfl⟩))) | assumption | (exact (hc_far (by omega)).trans (by assumption))) (by omega) (by first | rfl | assumption) ?_ ?_
      · intro z191
        have hk : σ.t.k = 27 := (i_eq (b := 27) h2 rfl (by omega) (by omega)).mp z191
        exact ok 0 σ a _ _ (by rw [ms_as_s, if_pos (show σ.t.k = ms_kc 52 from hk)]) hk h (cgo.cw0 hT) crg.nil
      · intro z191
        have hk27 : ¬ σ.t.k = ms_kc 52 := fun h => z191 (by rw [h2, h]; decide)
        refine b_37_203 _ _ _ ?_ ?_
        · intro z203
          exact absurd ((i_le (a := 8) rfl rfl (by omega) (by omega)).mp z203) (by omega)
        · intro z203
          refine b_37_211 _ _ _ ?_
          refine b_37_216 _ _ _ (by first | (exact hc_o (by first | assumption | (exact ⟨by decide, rfl⟩))) | assumption | (exact (hc_far (by omega)).trans (by assumption))) (by omega) ?_
          refine cr_re1 hn hG.2.1 ?_
          have hok : ∀ op, ms_oa σ.t.k = some op → cokA n sl f0 g L (mi_Kc (e + 10) 37 224 [some (.ref 15), some (.int l2), some (.int 5), some (.int (Int32.ofNat m0)), some (.int l5), some (.int (Int32.ofNat i))] [] Q) a σ j op kt mt := by
            intro op hop a' x σ1 σ2 hA hx1 hs hg hrow hr hlt
            have hx : x.1 = 7 ∨ x.1 = 8 ∨ x.1 = 9 := by rcases ms_oa_s hop with h | h | h <;> omega
            have hn2 := hs.2.1.2
            have hspc : ms_as g L (ms_E g L j) (ms_C g L j) (c + 1) σ = ms_eb (ms_as g L (ms_E g L j) (ms_C g L j) c σ2) (fun z σ3 => .ok (σ.n, σ3.set σ.n (x.yz σ1.n z))) := by
              rw [ms_as_s, if_neg hk27, hop]
              show (if σ.n = 800 then _ else _) = _
              rw [if_neg (by omega)]
              exact hA (fun x σ1 σ2 => ms_eb (ms_as g L (ms_E g L j) (ms_C g L j) c σ2) (fun z σ3 => .ok (σ.n, σ3.set σ.n (x.yz σ1.n z))))
            refine b_37_227 _ _ _ ?_
            rw [of_succ]
            refine ih a' σ2 (i + 1) 3 σ.n _ (by omega) (Or.inr ⟨rfl, rfl⟩) hlt ((hrow.1 3 (by omega) (by decide)).trans (cz_y3 hx).1) hs (fun z σ3 a3 l5' l6' hz h27 h3 g3 r3 => ?_) (fun w hw => ?_)
            · have hle3 := g3.2.2.1.1
              refine ok σ.n (σ3.set σ.n (x.yz σ1.n z)) a3 _ _ (by rw [hspc, hz]; rfl) h27 h3.set ?_ ?_
              · rw [mz_lk_pos (by omega)]
                exact ((hg.w (Nat.le_refl _)).trans g3).set (Nat.le_refl _)
              · refine crg.one ((((hr.w (k := 3) (m := σ.n) (v := mz_lk z) (Nat.lt_succ_self _)).go (σ := σ2) g3 (Nat.le_refl _)).join r3 hle3)) (hrow.z hx (fun k hk => (g3.2.1 σ.n hlt).1 k hk) (g3.2.1 σ.n hlt).2) (Or.inl (cz_y3 hx).2) (by show σ.n < σ3.n; omega)
            · exact (er w (by rw [hspc, hw]; rfl)).go ((cF.re.w (k := kt) (m := mt) (v := Int32.ofNat σ.n)).trans hg.1)
          have her : ∀ op, ¬ σ.n = 800 → ms_oa σ.t.k = some op → cerA n sl f0 g L (mi_Kc (e + 10) 37 224 [some (.ref 15), some (.int l2), some (.int 5), some (.int (Int32.ofNat m0)), some (.int l5), some (.int (Int32.ofNat i))] [] Q) a σ j op := by
            intro op h8 hop w hw
            refine cEr.kc (by decide +kernel) (by omega) (er w ?_)
            rw [ms_as_s, if_neg hk27, hop]
            show (if σ.n = 800 then _ else _) = _
            rw [if_neg h8]
            exact hw (fun x σ1 σ2 => ms_eb (ms_as g L (ms_E g L j) (ms_C g L j) c σ2) (fun z σ3 => .ok (σ.n, σ3.set σ.n (x.yz σ1.n z))))
          have her0 : ms_oa σ.t.k = none ∨ σ.n = 800 → cEr n sl f0 (mi_Kc (e + 10) 37 224 [some (.ref 15), some (.int l2), some (.int 5), some (.int (Int32.ofNat m0)), some (.int l5), some (.int (Int32.ofNat i))] [] Q) a σ.t.a := by
            intro h0
            refine cEr.kc (by decide +kernel) (by omega) (er _ ?_)
            rw [ms_as_s, if_neg hk27]
            rcases h0 with h0 | h0
            · rw [h0]
            · cases hop : ms_oa σ.t.k with
              | none => rfl
              | some op =>
                show (if σ.n = 800 then _ else _) = _
                rw [if_pos h0]
          refine b_37_219 _ _ _ (by first | (exact hc_o (by first | assumption | (exact ⟨by decide, rfl⟩))) | assumption | (exact (hc_far (by omega)).trans (by assumption))) (by omega) ?_
          rcases hv with ⟨rfl, rfl, rfl⟩ | ⟨rfl, rfl⟩
          · exact cn_actf (l2 := 0) hG hl2 hd IHE IHC h hmt hok her her0
          · exact cn_actn hG hl2 hd IHE IHC h hmt hok her her0
end
