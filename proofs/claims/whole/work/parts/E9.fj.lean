/-! the second object: an input -/
def gIn (b : mg_A) (k : Nat) (i : mv_I) : Prop := (i.1 = 7 ∨ i.1 = 8 ∨ i.1 = 9) ∧ b.I 551 k = Int32.ofNat i.1 ∧ (¬ i.1 = 9 → b.I 552 k = Int32.ofNat i.2.1 ∧ i.2.1 ≤ 800) ∧ (i.1 = 7 → b.I 553 k = Int32.ofNat i.2.2.1 ∧ i.2.2.1 ≤ 800 ∧ b.I 554 k = Int32.ofNat i.2.2.2.1 ∧ i.2.2.2.1 ≤ 800) ∧ b.J 555 k = i.2.2.2.2
def gBd (b : mg_A) (B : Nat) (bd : Nat → Int64 × Int64) (tb : Nat → ms_N) : Prop := B ≤ 4200 ∧ (∀ j, j < B → b.J 518 j = (bd j).1 ∧ b.J 519 j = (bd j).2) ∧ ∀ m, (tb m).1 = 8 → (tb m).2.2.2.2.2.2.2.2.2 + (tb m).2.2.2.2.2.2.2.2.1 ≤ B
def gft : Option Bool → Int32
  | none => 6
  | some true => 1
  | some false => 0
section
variable {d e n sl N BN : Nat} {b b0 b1 b2 : mg_A} {f0 : Nat → mi_C} {Q : (Option Value ⊕ Nat) → mi_H → Prop} {p q i j c k r m A B D x y z M F : Nat} {tb : Nat → ms_N} {lo hi v w u : Int64} {Z Z' : mv_Z} {wal : Bool} {bd : Nat → Int64 × Int64} {I : mv_I}
theorem g_in (k1 : u ≤ v ∧ v ≤ w → Q (.inl (some (.int 1))) (n, sl, hd b f0)) (k0 : ¬ (u ≤ v ∧ v ≤ w) → Q (.inl (some (.int 0))) (n, sl, hd b f0)) : mi_W d 142 0 (mi_en 6 [.long v, .long u, .long w]) [] (n, sl, hd b f0) Q := by
  refine b_142_0 _ _ _ ?_ ?_
  · intro z0
    refine b_142_17 _ _ _ ?_
    refine b_142_18 _ _ _ (by first | assumption | (exact mL_get (by decide)) | (rw [mL_len]; decide) | (simp only [mL_set]; exact mL_get (by decide)) | (simp only [mL_set, mL_len]; decide) | (exact va_eq) | (exact (va_ne (by omega)).trans (by assumption)) | (exact (va_ne (by omega)).trans va_eq) | (exact (va_ne (by omega)).trans ((va_ne (by omega)).trans (by assumption))) | (exact (va_ne (by omega)).trans ((va_ne (by omega)).trans ((va_ne (by omega)).trans (by assumption)))) | rfl | (exact Or.inl rfl) | (exact Or.inr rfl) | omega | (exact Nat.le_of_ble_eq_true rfl) | decide | (exact ⟨by decide, rfl, by decide⟩)) ?_
    first | exact k0 (fun h => absurd (lg_lt.mp z0) (Int64.not_lt.mpr h.1)) | exact k0 (fun h => absurd (lg_gt.mp z6) (Int64.not_lt.mpr h.2))
  · intro z0
    refine b_142_6 _ _ _ ?_ ?_
    · intro z6
      refine b_142_17 _ _ _ ?_
      refine b_142_18 _ _ _ (by first | assumption | (exact mL_get (by decide)) | (rw [mL_len]; decide) | (simp only [mL_set]; exact mL_get (by decide)) | (simp only [mL_set, mL_len]; decide) | (exact va_eq) | (exact (va_ne (by omega)).trans (by assumption)) | (exact (va_ne (by omega)).trans va_eq) | (exact (va_ne (by omega)).trans ((va_ne (by omega)).trans (by assumption))) | (exact (va_ne (by omega)).trans ((va_ne (by omega)).trans ((va_ne (by omega)).trans (by assumption)))) | rfl | (exact Or.inl rfl) | (exact Or.inr rfl) | omega | (exact Nat.le_of_ble_eq_true rfl) | decide | (exact ⟨by decide, rfl, by decide⟩)) ?_
      first | exact k0 (fun h => absurd (lg_lt.mp z0) (Int64.not_lt.mpr h.1)) | exact k0 (fun h => absurd (lg_gt.mp z6) (Int64.not_lt.mpr h.2))
    · intro z6
      refine b_142_13 _ _ _ ?_
      refine b_142_18 _ _ _ (by first | assumption | (exact mL_get (by decide)) | (rw [mL_len]; decide) | (simp only [mL_set]; exact mL_get (by decide)) | (simp only [mL_set, mL_len]; decide) | (exact va_eq) | (exact (va_ne (by omega)).trans (by assumption)) | (exact (va_ne (by omega)).trans va_eq) | (exact (va_ne (by omega)).trans ((va_ne (by omega)).trans (by assumption))) | (exact (va_ne (by omega)).trans ((va_ne (by omega)).trans ((va_ne (by omega)).trans (by assumption)))) | rfl | (exact Or.inl rfl) | (exact Or.inr rfl) | omega | (exact Nat.le_of_ble_eq_true rfl) | decide | (exact ⟨by decide, rfl, by decide⟩)) ?_
      exact k1 ⟨Int64.not_lt.mp (fun h => z0 (lg_lt.mpr h)), Int64.not_lt.mp (fun h => z6 (lg_gt.mpr h))⟩
theorem gIn.mf (h : gIn b k I) (f : gMf p b b1) : gIn b1 k I := by
  have e : ∀ q, 547 < q → b1.I q = b.I q := fun q hq => f.2.1 q (Or.inr (Or.inr hq))
  unfold gIn
  rw [e 551 (by decide), e 552 (by decide), e 553 (by decide), e 554 (by decide), f.2.2.1 555 (by decide)]
  exact h
theorem gBd.mf (h : gBd b BN bd tb) (f : gMf p b b1) : gBd b1 BN bd tb := by
  unfold gBd
  rw [f.2.2.1 518 (by decide), f.2.2.1 519 (by decide)]
  exact h
theorem g_fitl (hn : 575 ≤ n) (hk : k < 16) (hm : m < 800) (hFM : F + M ≤ 4200) (h13 : b.I 515 m = Int32.ofNat M) (h14 : b.I 530 m = Int32.ofNat F) (hv : b.J 555 k = v) (hbd : ∀ j, F ≤ j → j < F + M → b.J 518 j = (bd j).1 ∧ b.J 519 j = (bd j).2) : ∀ (t j : Nat), j + t = F + M → F ≤ j → (Q (.inl (some (.int (gft (some (mv_wi bd v t j)))))) (n, sl, hd b f0)) → ∀ o5, mi_W (d + 1) 184 101 [some (.ref 505), some (.int (Int32.ofNat m)), some (.int (Int32.ofNat k)), some (.int (Int32.ofNat j)), o5] [] (n, sl, hd b f0) Q := by
  have hixm := ix_of (w := m) (m := 800) (by omega) (by omega)
  have hixk := ix_of (w := k) (m := 16) (by omega) (by omega)
  have hsum : b.I 530 m + b.I 515 m = Int32.ofNat (F + M) := by
    rw [h13, h14, of_add']
  intro t
  induction t with
  | zero =>
    intro j hj hF K o5
    refine b_184_101 _ _ _ _ _ _ _ _ _ (by first | (exact hd_9) | assumption) (by omega) (by exact mL_get (by decide)) (by first | (exact hd_I (by omega) rfl) | assumption) (Or.inl (by omega)) (by first | assumption | (exact ix_of (by omega) (by omega)) | (exact ⟨by decide, rfl, by decide⟩)) (by first | (exact hd_9) | assumption) (by omega) (by exact mL_get (by decide)) (by first | (exact hd_I (by omega) rfl) | assumption) (Or.inl (by omega)) (by first | assumption | (exact ix_of (by omega) (by omega)) | (exact ⟨by decide, rfl, by decide⟩)) ?_ ?_
    · intro z101
      refine b_184_150 _ _ _ ?_
      exact K
    · intro z101
      exact absurd ((i_le hsum rfl (by omega) (by omega)).mpr (by omega)) z101
  | succ t ih =>
    intro j hj hF K o5
    have hixj := ix_of (w := j) (m := 4200) (by omega) (by omega)
    have hbj := hbd j hF (by omega)
    unfold mv_wi at K
    refine b_184_101 _ _ _ _ _ _ _ _ _ (by first | (exact hd_9) | assumption) (by omega) (by exact mL_get (by decide)) (by first | (exact hd_I (by omega) rfl) | assumption) (Or.inl (by omega)) (by first | assumption | (exact ix_of (by omega) (by omega)) | (exact ⟨by decide, rfl, by decide⟩)) (by first | (exact hd_9) | assumption) (by omega) (by exact mL_get (by decide)) (by first | (exact hd_I (by omega) rfl) | assumption) (Or.inl (by omega)) (by first | assumption | (exact ix_of (by omega) (by omega)) | (exact ⟨by decide, rfl, by decide⟩)) ?_ ?_
    · intro z101
      exact absurd ((i_le hsum rfl (by omega) (by omega)).mp z101) (by omega)
    · intro z101
      refine b_184_118 _ _ _ _ _ _ _ _ _ _ _ _ (by first | (exact hd_9) | assumption) (by omega) (by exact mL_get (by decide)) (by first | (exact hd_J (by omega) rfl) | (exact hd_L1 (by assumption)) | (exact hd_L2 (by assumption)) | (exact hd_L3 (by assumption)) | assumption) (by omega) (by first | assumption | (exact ix_of (by omega) (by omega)) | (exact ⟨by decide, rfl, by decide⟩)) (by first | (exact hd_9) | assumption) (by omega) (by exact mL_get (by decide)) (by first | (exact hd_J (by omega) rfl) | (exact hd_L1 (by assumption)) | (exact hd_L2 (by assumption)) | (exact hd_L3 (by assumption)) | assumption) (by omega) (by first | assumption | (exact ix_of (by omega) (by omega)) | (exact ⟨by decide, rfl, by decide⟩)) (by first | (exact hd_9) | assumption) (by omega) (by exact mL_get (by decide)) (by first | (exact hd_J (by omega) rfl) | (exact hd_L1 (by assumption)) | (exact hd_L2 (by assumption)) | (exact hd_L3 (by assumption)) | assumption) (by omega) (by first | assumption | (exact ix_of (by omega) (by omega)) | (exact ⟨by decide, rfl, by decide⟩)) ?_
      rw [hv, hbj.1, hbj.2]
      refine g_in (fun h => ?_) (fun h => ?_)
      · rw [if_pos h] at K
        refine b_184_139 _ _ _ ?_ ?_
        · intro z139
          first | (exact absurd z139 (by decide)) | (exact absurd (by decide) z139) | (exact absurd rfl z139) | (exact absurd z139 (of_nn (by omega))) | (exact absurd (of_np (by omega)) z139) | omega
        · intro z139
          refine b_184_142 _ _ _ ?_
          exact K
      · rw [if_neg h] at K
        refine b_184_139 _ _ _ ?_ ?_
        · intro z139
          refine b_184_144 _ _ _ ?_
          rw [of_succ]
          exact ih (j + 1) (by omega) (by omega) K _
        · intro z139
          first | (exact absurd z139 (by decide)) | (exact absurd (by decide) z139) | (exact absurd rfl z139) | (exact absurd z139 (of_nn (by omega))) | (exact absurd (of_np (by omega)) z139) | omega
theorem g_fits (hn : 575 ≤ n) (h : gM n b p N tb lo hi wal Z) (hS : mv_ok Z.S) (ha : mz_a tb N m) (hb : gBd b BN bd tb) (hk : k < 16) (hI : gIn b k I) (K : ∀ b', gMf p b b' → gM n b' p N tb lo hi wal Z → b'.I 505 58 = b.I 505 58 → Q (.inl (some (.int (gft (mv_fits bd (mv_E tb Z.S lo hi 100) I (tb m)))))) (n, sl, hd b' f0)) : mi_W (e + 103) 184 0 (mi_en 5 [.ref 505, .int (Int32.ofNat m), .int (Int32.ofNat k)]) [] (n, sl, hd b f0) Q := by
  obtain ⟨⟨hps, hpn⟩, ⟨hlo, hhi, hwal⟩, ⟨hN8, hrg, hto⟩, hSt, hev, hlf⟩ := id h
  have ho := mz_so3 ⟨(tb m).1, mz_so33 ha.2.1 (by decide)⟩ ha.2.1
  dsimp only at ho
  have hrow := hrg _ ha.1
  have hbm := hb.2.2 m
  have hmN := ha.1
  obtain ⟨-, -, had, hx, -⟩ := ha
  rcases hcm : tb m with ⟨op, A, B, D, u, x, y, z, M, F⟩
  rw [hcm] at ho K hrow hbm had hx
  unfold gRow at hrow
  unfold mz_ad at had
  dsimp only at ho hrow hbm had hx
  obtain ⟨w0, w1, w2, w3, w4, w5, w6, w7, w8, w9, w10, w11, w12, w13, w14⟩ := hrow
  obtain ⟨ik, a, i2, i3, iv⟩ := I
  obtain ⟨i1, i4, i5, i6, i7⟩ := hI
  dsimp only at i1 i4 i5 i6 i7
  have hixm := ix_of (w := m) (m := 800) (by omega) (by omega)
  have hixk := ix_of (w := k) (m := 16) (by omega) (by omega)
  have E := g_E (sl := sl) (f0 := f0) hn (h.rk hS) 100 (by omega)
  have hw0 : ∀ l, (gvL b l).I 509 m = Int32.ofNat op := fun _ => w0
  have hi4 : ∀ l, (gvL b l).I 551 k = Int32.ofNat ik := fun _ => i4
  have hop : op ≤ 9 := by omega
  have hik : ik ≤ 9 := by omega
  have h' : ∀ l, gM n (gvL b l) p N tb lo hi wal Z := fun _ => h
  unfold mv_fits at K
  dsimp only at K
  by_cases hne : op = ik
  · rw [if_neg (fun h => h hne)] at K
    subst hne
    rcases ho with rfl | rfl | rfl
    · rw [if_neg (by decide)] at K
      have a1 : (gvL b false).I 510 m = Int32.ofNat A := w1 (by decide)
      have a2 : (gvL b false).I 511 m = Int32.ofNat B := w2 (by decide)
      have a3 : (gvL b false).I 512 m = Int32.ofNat D := w3 (by decide)
      have a5 : (gvL b false).I 513 m = Int32.ofNat x := w5 (by decide)
      have hA : A < 8 := had.1 (by decide)
      have hB : B < 8 := had.2.1 (by decide)
      have hD : D < 4 := had.2.2 (by decide)
      have c1 : (gvL b false).I 552 k = Int32.ofNat a := (i5 (by decide)).1
      have c2 : (gvL b false).I 553 k = Int32.ofNat i2 := (i6 rfl).1
      have c3 : (gvL b false).I 554 k = Int32.ofNat i3 := (i6 rfl).2.2.1
      have c4 := (i5 (by decide)).2
      have c5 := (i6 rfl).2.1
      have c6 := (i6 rfl).2.2.2
      have hxk : mz_ok tb N 100 1 x := mz_dn (hx (by decide))
      refine b_184_0 _ _ _ _ _ _ _ _ _ (by first | (exact hd_9) | assumption) (by omega) (by rw [mL_len]; decide) (by first | assumption | (exact mL_get (by decide)) | (rw [mL_len]; decide) | (simp only [mL_set]; exact mL_get (by decide)) | (simp only [mL_set, mL_len]; decide) | (exact va_eq) | (exact (va_ne (by omega)).trans (by assumption)) | (exact (va_ne (by omega)).trans va_eq) | (exact (va_ne (by omega)).trans ((va_ne (by omega)).trans (by assumption))) | (exact (va_ne (by omega)).trans ((va_ne (by omega)).trans ((va_ne (by omega)).trans (by assumption)))) | rfl | (exact Or.inl rfl) | (exact Or.inr rfl) | omega | (exact Nat.le_of_ble_eq_true rfl) | decide | (exact ⟨by decide, rfl, by decide⟩)) (by first | (exact (congrFun (gw_X (by decide)) _).trans (hd_9)) | assumption) (by omega) (by exact mL_get (by decide)) (by first | (exact (congrFun (gw_X (by decide)) _).trans (hd_I (by omega) rfl)) | assumption) (Or.inl (by omega)) (by first | assumption | (exact ix_of (by omega) (by omega)) | (exact ⟨by decide, rfl, by decide⟩)) (by first | (exact (congrFun (gw_X (by decide)) _).trans (hd_9)) | assumption) (by omega) (by exact mL_get (by decide)) (by first | (exact (congrFun (gw_X (by decide)) _).trans (hd_I (by omega) rfl)) | assumption) (Or.inl (by omega)) (by first | assumption | (exact ix_of (by omega) (by omega)) | (exact ⟨by decide, rfl, by decide⟩)) ?_ ?_
      · intro z0
        refine hw_W (gw_X (by decide)) ?_
        rw [show b.sX 46 0 = gvL b false from rfl]
        refine b_184_22 _ _ _ _ _ _ (by first | (exact hd_9) | assumption) (by omega) (by exact mL_get (by decide)) (by first | (exact hd_I (by omega) rfl) | assumption) (Or.inl (by omega)) (by first | assumption | (exact ix_of (by omega) (by omega)) | (exact ⟨by decide, rfl, by decide⟩)) ?_ ?_
        · intro z22
          refine b_184_66 _ _ _ _ _ _ (by first | (exact hd_9) | assumption) (by omega) (by exact mL_get (by decide)) (by first | (exact hd_I (by omega) rfl) | assumption) (Or.inl (by omega)) (by first | assumption | (exact ix_of (by omega) (by omega)) | (exact ⟨by decide, rfl, by decide⟩)) ?_ ?_
          · intro z66
            refine b_184_152 _ _ _ _ _ _ _ _ _ (by first | (exact hd_9) | assumption) (by omega) (by exact mL_get (by decide)) (by first | (exact hd_I (by omega) rfl) | assumption) (Or.inl (by omega)) (by first | assumption | (exact ix_of (by omega) (by omega)) | (exact ⟨by decide, rfl, by decide⟩)) (by first | (exact hd_9) | assumption) (by omega) (by exact mL_get (by decide)) (by first | (exact hd_I (by omega) rfl) | assumption) (Or.inl (by omega)) (by first | assumption | (exact ix_of (by omega) (by omega)) | (exact ⟨by decide, rfl, by decide⟩)) ?_ ?_
            · intro z152
              rw [c1, a1, of_eq (by omega) (by omega)] at z152
              rw [if_pos (fun h => z152 h.symm)] at K
              refine b_184_197 _ _ _ ?_
              exact K _ gMf.re.vL (h' false) rfl
            · intro z152
              rw [c1, a1, Classical.not_not, of_eq (by omega) (by omega)] at z152
              rw [if_neg (fun h => h z152.symm), if_neg (by decide)] at K
              refine b_184_167 _ _ _ _ _ _ _ _ _ (by first | (exact hd_9) | assumption) (by omega) (by exact mL_get (by decide)) (by first | (exact hd_I (by omega) rfl) | assumption) (Or.inl (by omega)) (by first | assumption | (exact ix_of (by omega) (by omega)) | (exact ⟨by decide, rfl, by decide⟩)) (by first | (exact hd_9) | assumption) (by omega) (by exact mL_get (by decide)) (by first | (exact hd_I (by omega) rfl) | assumption) (Or.inl (by omega)) (by first | assumption | (exact ix_of (by omega) (by omega)) | (exact ⟨by decide, rfl, by decide⟩)) ?_ ?_
              · intro z167
                rw [c2, a2, of_eq (by omega) (by omega)] at z167
                rw [if_pos (fun h => z167 h.1.symm)] at K
                refine b_184_197 _ _ _ ?_
                exact K _ gMf.re.vL (h' false) rfl
              · intro z167
                rw [c2, a2, Classical.not_not, of_eq (by omega) (by omega)] at z167
                refine b_184_182 _ _ _ _ _ _ _ _ _ (by first | (exact hd_9) | assumption) (by omega) (by exact mL_get (by decide)) (by first | (exact hd_I (by omega) rfl) | assumption) (Or.inl (by omega)) (by first | assumption | (exact ix_of (by omega) (by omega)) | (exact ⟨by decide, rfl, by decide⟩)) (by first | (exact hd_9) | assumption) (by omega) (by exact mL_get (by decide)) (by first | (exact hd_I (by omega) rfl) | assumption) (Or.inl (by omega)) (by first | assumption | (exact ix_of (by omega) (by omega)) | (exact ⟨by decide, rfl, by decide⟩)) ?_ ?_
                · intro z182
                  rw [c3, a3, of_eq (by omega) (by omega)] at z182
                  rw [if_neg (fun h => h ⟨z167.symm, z182.symm⟩)] at K
                  refine b_184_199 _ _ _ _ _ _ (by first | (exact hd_9) | assumption) (by omega) (by exact mL_get (by decide)) (by first | (exact hd_I (by omega) rfl) | assumption) (Or.inl (by omega)) (by first | assumption | (exact ix_of (by omega) (by omega)) | (exact ⟨by decide, rfl, by decide⟩)) (by first | (exact hd_9) | assumption) (by omega) ?_
                  rw [a5]
                  refine E.1 x _ false _ (by omega) hxk (fun r l c => ?_)
                  have hfin : ∀ s : Int32, (l = true → s = 6) → (l = false → s = if r = iv then 1 else 0) → Q (.inl (some (.int s))) (n, sl, hd (gvL b l) f0) := by
                    intro s s1 s2
                    cases hv : (mv_E tb Z.S lo hi 100).1 x with
                    | none =>
                      rw [hv] at c K
                      have hl : l = true := c
                      rw [s1 hl]
                      exact K _ gMf.re.vL (h' l) rfl
                    | some w =>
                      rw [hv] at c K
                      have hl : l = false ∧ r = w := c
                      rw [s2 hl.1, hl.2]
                      have K2 := K _ (gMf.re.vL (l := l)) (h' l) rfl
                      by_cases hwv : w = iv
                      · rw [if_pos hwv]
                        rw [show (some w).map (fun w => decide (w = iv)) = some true from congrArg some (decide_eq_true hwv)] at K2
                        exact K2
                      · rw [if_neg hwv]
                        rw [show (some w).map (fun w => decide (w = iv)) = some false from congrArg some (decide_eq_false hwv)] at K2
                        exact K2
                  refine b_184_209 _ _ _ (by first | (exact hd_9) | assumption) (by omega) (by exact mL_get (by decide)) ?_ ?_
                  · intro z209
                    have hl : l = false := by cases l with | false => rfl | true => exact absurd z209 gvL_46t
                    refine b_184_222 _ _ _ _ _ _ (by first | (exact hd_9) | assumption) (by omega) (by exact mL_get (by decide)) (by first | (exact hd_J (by omega) rfl) | (exact hd_L1 (by assumption)) | (exact hd_L2 (by assumption)) | (exact hd_L3 (by assumption)) | assumption) (by omega) (by first | assumption | (exact ix_of (by omega) (by omega)) | (exact ⟨by decide, rfl, by decide⟩)) ?_ ?_
                    · intro z222
                      have hrv : ¬ r = iv := fun e => z222 (lg_e.mpr (by show r = b.J 555 k; rw [i7]; exact e))
                      refine b_184_237 _ _ _ ?_
                      refine b_184_238 _ _ _ ?_
                      refine hfin _ (fun h => ?_) (fun h => ?_)
                      all_goals first | rfl | (exact Bool.noConfusion (hl.symm.trans h)) | (rw [if_pos hrv]; done) | (rw [if_neg hrv]; done)
                    · intro z222
                      have hrv : r = iv := (lg_e.mp (Classical.not_not.mp z222)).trans i7
                      refine b_184_233 _ _ _ ?_
                      refine b_184_238 _ _ _ ?_
                      refine hfin _ (fun h => ?_) (fun h => ?_)
                      all_goals first | rfl | (exact Bool.noConfusion (hl.symm.trans h)) | (rw [if_pos hrv]; done) | (rw [if_neg hrv]; done)
                  · intro z209
                    have hl : l = true := by cases l with | true => rfl | false => exact absurd rfl z209
                    refine b_184_217 _ _ _ ?_
                    refine b_184_238 _ _ _ ?_
                    refine hfin _ (fun h => ?_) (fun h => ?_)
                    all_goals first | rfl | (exact Bool.noConfusion (hl.symm.trans h)) | (rw [if_pos hrv]; done) | (rw [if_neg hrv]; done)
                · intro z182
                  rw [c3, a3, of_eq (by omega) (by omega)] at z182
                  rw [if_pos (fun h => z182 h.2.symm)] at K
                  refine b_184_197 _ _ _ ?_
                  exact K _ gMf.re.vL (h' false) rfl
          · intro z66
            exact absurd (Classical.not_not.mp z66) (by rw [hw0 false]; decide)
        · intro z22
          exact absurd (Classical.not_not.mp z22) (by rw [hw0 false]; decide)
      · intro z0
        exact absurd (i4.trans w0.symm) z0
    · rw [if_neg (by decide)] at K
      have a1 : (gvL b false).I 510 m = Int32.ofNat A := w1 (by decide)
      have a14 : (gvL b false).I 530 m = Int32.ofNat F := w14 (by decide)
      have a13 : (gvL b false).I 515 m = Int32.ofNat M := w13 (by decide)
      have hA : A < 8 := had.1 (by decide)
      have c1 : (gvL b false).I 552 k = Int32.ofNat a := (i5 (by decide)).1
      have c4 := (i5 (by decide)).2
      have hFM := hbm rfl
      have hb42 := hb.1
      refine b_184_0 _ _ _ _ _ _ _ _ _ (by first | (exact hd_9) | assumption) (by omega) (by rw [mL_len]; decide) (by first | assumption | (exact mL_get (by decide)) | (rw [mL_len]; decide) | (simp only [mL_set]; exact mL_get (by decide)) | (simp only [mL_set, mL_len]; decide) | (exact va_eq) | (exact (va_ne (by omega)).trans (by assumption)) | (exact (va_ne (by omega)).trans va_eq) | (exact (va_ne (by omega)).trans ((va_ne (by omega)).trans (by assumption))) | (exact (va_ne (by omega)).trans ((va_ne (by omega)).trans ((va_ne (by omega)).trans (by assumption)))) | rfl | (exact Or.inl rfl) | (exact Or.inr rfl) | omega | (exact Nat.le_of_ble_eq_true rfl) | decide | (exact ⟨by decide, rfl, by decide⟩)) (by first | (exact (congrFun (gw_X (by decide)) _).trans (hd_9)) | assumption) (by omega) (by exact mL_get (by decide)) (by first | (exact (congrFun (gw_X (by decide)) _).trans (hd_I (by omega) rfl)) | assumption) (Or.inl (by omega)) (by first | assumption | (exact ix_of (by omega) (by omega)) | (exact ⟨by decide, rfl, by decide⟩)) (by first | (exact (congrFun (gw_X (by decide)) _).trans (hd_9)) | assumption) (by omega) (by exact mL_get (by decide)) (by first | (exact (congrFun (gw_X (by decide)) _).trans (hd_I (by omega) rfl)) | assumption) (Or.inl (by omega)) (by first | assumption | (exact ix_of (by omega) (by omega)) | (exact ⟨by decide, rfl, by decide⟩)) ?_ ?_
      · intro z0
        refine hw_W (gw_X (by decide)) ?_
        rw [show b.sX 46 0 = gvL b false from rfl]
        refine b_184_22 _ _ _ _ _ _ (by first | (exact hd_9) | assumption) (by omega) (by exact mL_get (by decide)) (by first | (exact hd_I (by omega) rfl) | assumption) (Or.inl (by omega)) (by first | assumption | (exact ix_of (by omega) (by omega)) | (exact ⟨by decide, rfl, by decide⟩)) ?_ ?_
        · intro z22
          refine b_184_66 _ _ _ _ _ _ (by first | (exact hd_9) | assumption) (by omega) (by exact mL_get (by decide)) (by first | (exact hd_I (by omega) rfl) | assumption) (Or.inl (by omega)) (by first | assumption | (exact ix_of (by omega) (by omega)) | (exact ⟨by decide, rfl, by decide⟩)) ?_ ?_
          · intro z66
            exact absurd (hw0 false) z66
          · intro z66
            refine b_184_77 _ _ _ _ _ _ _ _ _ (by first | (exact hd_9) | assumption) (by omega) (by exact mL_get (by decide)) (by first | (exact hd_I (by omega) rfl) | assumption) (Or.inl (by omega)) (by first | assumption | (exact ix_of (by omega) (by omega)) | (exact ⟨by decide, rfl, by decide⟩)) (by first | (exact hd_9) | assumption) (by omega) (by exact mL_get (by decide)) (by first | (exact hd_I (by omega) rfl) | assumption) (Or.inl (by omega)) (by first | assumption | (exact ix_of (by omega) (by omega)) | (exact ⟨by decide, rfl, by decide⟩)) ?_ ?_
            · intro z77
              rw [c1, a1, of_eq (by omega) (by omega)] at z77
              rw [if_neg (fun h => h z77.symm), if_pos rfl] at K
              refine b_184_94 _ _ _ _ _ _ (by first | (exact hd_9) | assumption) (by omega) (by exact mL_get (by decide)) (by first | (exact hd_I (by omega) rfl) | assumption) (Or.inl (by omega)) (by first | assumption | (exact ix_of (by omega) (by omega)) | (exact ⟨by decide, rfl, by decide⟩)) ?_
              rw [a14]
              exact g_fitl hn hk (by omega) (by omega) a13 a14 (show (gvL b false).J 555 k = iv from i7) (fun j hj1 hj2 => hb.2.1 j (by omega)) M F (by omega) (Nat.le_refl _) (K _ gMf.re.vL (h' false) rfl) _
            · intro z77
              rw [c1, a1, of_eq (by omega) (by omega)] at z77
              rw [if_pos (fun h => z77 h.symm)] at K
              refine b_184_92 _ _ _ ?_
              exact K _ gMf.re.vL (h' false) rfl
        · intro z22
          exact absurd (Classical.not_not.mp z22) (by rw [hw0 false]; decide)
      · intro z0
        exact absurd (i4.trans w0.symm) z0
    · rw [if_pos rfl] at K
      have a5 : (gvL b false).I 513 m = Int32.ofNat x := w5 (by decide)
      have hxk : mz_ok tb N 100 2 x := mz_dn (hx (by decide))
      refine b_184_0 _ _ _ _ _ _ _ _ _ (by first | (exact hd_9) | assumption) (by omega) (by rw [mL_len]; decide) (by first | assumption | (exact mL_get (by decide)) | (rw [mL_len]; decide) | (simp only [mL_set]; exact mL_get (by decide)) | (simp only [mL_set, mL_len]; decide) | (exact va_eq) | (exact (va_ne (by omega)).trans (by assumption)) | (exact (va_ne (by omega)).trans va_eq) | (exact (va_ne (by omega)).trans ((va_ne (by omega)).trans (by assumption))) | (exact (va_ne (by omega)).trans ((va_ne (by omega)).trans ((va_ne (by omega)).trans (by assumption)))) | rfl | (exact Or.inl rfl) | (exact Or.inr rfl) | omega | (exact Nat.le_of_ble_eq_true rfl) | decide | (exact ⟨by decide, rfl, by decide⟩)) (by first | (exact (congrFun (gw_X (by decide)) _).trans (hd_9)) | assumption) (by omega) (by exact mL_get (by decide)) (by first | (exact (congrFun (gw_X (by decide)) _).trans (hd_I (by omega) rfl)) | assumption) (Or.inl (by omega)) (by first | assumption | (exact ix_of (by omega) (by omega)) | (exact ⟨by decide, rfl, by decide⟩)) (by first | (exact (congrFun (gw_X (by decide)) _).trans (hd_9)) | assumption) (by omega) (by exact mL_get (by decide)) (by first | (exact (congrFun (gw_X (by decide)) _).trans (hd_I (by omega) rfl)) | assumption) (Or.inl (by omega)) (by first | assumption | (exact ix_of (by omega) (by omega)) | (exact ⟨by decide, rfl, by decide⟩)) ?_ ?_
      · intro z0
        refine hw_W (gw_X (by decide)) ?_
        rw [show b.sX 46 0 = gvL b false from rfl]
        refine b_184_22 _ _ _ _ _ _ (by first | (exact hd_9) | assumption) (by omega) (by exact mL_get (by decide)) (by first | (exact hd_I (by omega) rfl) | assumption) (Or.inl (by omega)) (by first | assumption | (exact ix_of (by omega) (by omega)) | (exact ⟨by decide, rfl, by decide⟩)) ?_ ?_
        · intro z22
          exact absurd (hw0 false) z22
        · intro z22
          refine b_184_33 _ _ _ _ _ _ (by first | (exact hd_9) | assumption) (by omega) (by exact mL_get (by decide)) (by first | (exact hd_I (by omega) rfl) | assumption) (Or.inl (by omega)) (by first | assumption | (exact ix_of (by omega) (by omega)) | (exact ⟨by decide, rfl, by decide⟩)) (by first | (exact hd_9) | assumption) (by omega) ?_
          rw [a5]
          refine E.2 x _ false _ (by omega) hxk (fun r l hb c => ?_)
          have hfin : ∀ s : Int32, (l = true → s = 6) → (l = false → s = r) → Q (.inl (some (.int s))) (n, sl, hd (gvL b l) f0) := by
            intro s s1 s2
            cases hv : (mv_E tb Z.S lo hi 100).2 x with
            | none =>
              rw [hv] at c K
              have hl : l = true := c
              rw [s1 hl]
              exact K _ gMf.re.vL (h' l) rfl
            | some bb =>
              rw [hv] at c K
              have hl : l = false ∧ r = cvt bb := c
              rw [s2 hl.1, hl.2]
              have K2 := K _ (gMf.re.vL (l := l)) (h' l) rfl
              cases bb <;> exact K2
          refine b_184_43 _ _ _ (by first | (exact hd_9) | assumption) (by omega) (by exact mL_get (by decide)) ?_ ?_
          · intro z43
            have hl : l = false := by cases l with | false => rfl | true => exact absurd z43 gvL_46t
            refine b_184_56 _ _ _ ?_ ?_
            · intro z56
              refine b_184_64 _ _ _ ?_
              refine b_184_65 _ _ _ ?_
              refine hfin _ (fun h => ?_) (fun h => ?_)
              all_goals first | rfl | (exact Bool.noConfusion (hl.symm.trans h)) | (exact z56.symm) | (rcases hb with hb | hb; exact absurd hb z56; exact hb.symm)
            · intro z56
              refine b_184_60 _ _ _ ?_
              refine b_184_65 _ _ _ ?_
              refine hfin _ (fun h => ?_) (fun h => ?_)
              all_goals first | rfl | (exact Bool.noConfusion (hl.symm.trans h)) | (exact z56.symm) | (rcases hb with hb | hb; exact absurd hb z56; exact hb.symm)
          · intro z43
            have hl : l = true := by cases l with | true => rfl | false => exact absurd rfl z43
            refine b_184_51 _ _ _ ?_
            refine b_184_65 _ _ _ ?_
            refine hfin _ (fun h => ?_) (fun h => ?_)
            all_goals first | rfl | (exact Bool.noConfusion (hl.symm.trans h)) | (exact z56.symm) | (rcases hb with hb | hb; exact absurd hb z56; exact hb.symm)
      · intro z0
        exact absurd (i4.trans w0.symm) z0
  · rw [if_pos hne] at K
    refine b_184_0 _ _ _ _ _ _ _ _ _ (by first | (exact hd_9) | assumption) (by omega) (by rw [mL_len]; decide) (by first | assumption | (exact mL_get (by decide)) | (rw [mL_len]; decide) | (simp only [mL_set]; exact mL_get (by decide)) | (simp only [mL_set, mL_len]; decide) | (exact va_eq) | (exact (va_ne (by omega)).trans (by assumption)) | (exact (va_ne (by omega)).trans va_eq) | (exact (va_ne (by omega)).trans ((va_ne (by omega)).trans (by assumption))) | (exact (va_ne (by omega)).trans ((va_ne (by omega)).trans ((va_ne (by omega)).trans (by assumption)))) | rfl | (exact Or.inl rfl) | (exact Or.inr rfl) | omega | (exact Nat.le_of_ble_eq_true rfl) | decide | (exact ⟨by decide, rfl, by decide⟩)) (by first | (exact (congrFun (gw_X (by decide)) _).trans (hd_9)) | assumption) (by omega) (by exact mL_get (by decide)) (by first | (exact (congrFun (gw_X (by decide)) _).trans (hd_I (by omega) rfl)) | assumption) (Or.inl (by omega)) (by first | assumption | (exact ix_of (by omega) (by omega)) | (exact ⟨by decide, rfl, by decide⟩)) (by first | (exact (congrFun (gw_X (by decide)) _).trans (hd_9)) | assumption) (by omega) (by exact mL_get (by decide)) (by first | (exact (congrFun (gw_X (by decide)) _).trans (hd_I (by omega) rfl)) | assumption) (Or.inl (by omega)) (by first | assumption | (exact ix_of (by omega) (by omega)) | (exact ⟨by decide, rfl, by decide⟩)) ?_ ?_
    · intro z0
      exact absurd ((of_eq (by omega) (by omega)).mp ((hi4 false).symm.trans (z0.trans (hw0 false)))) (fun h => hne h.symm)
    · intro z0
      refine hw_W (gw_X (by decide)) ?_
      rw [show b.sX 46 0 = gvL b false from rfl]
      refine b_184_20 _ _ _ ?_
      exact K _ gMf.re.vL (h' false) rfl
end
