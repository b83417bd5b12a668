/-! the second object: a step of its search -/
def ma_s2 (go : mv_S → Nat → ma_R) (o : Except Nat mv_Z) (p : Nat × Int64 × Nat) (c : Nat) : ma_R := if 5000 < c + 1 then (2, c + 1, []) else match o with
  | .error _ => (0, c + 1, [])
  | .ok Z => if 0 < Z.ws.1 then (1, c + 1, [p]) else ((go Z.S (c + 1)).1, (go Z.S (c + 1)).2.1, p :: (go Z.S (c + 1)).2.2)
/-- so many levels are enough below a state -/
def gNd (tb : Nat → ms_N) (N : Nat) (S : mv_S) (K : Nat) : Prop := ∃ k, k ≤ 100 ∧ mz_ok tb N k 0 S.at ∧ (ma_rd tb S = true → k + 1 ≤ K) ∧ k ≤ K
def gIG (f0 : Nat → mi_C) (N BN : Nat) (tb : Nat → ms_N) (bd : Nat → Int64 × Int64) (K : Nat) : Prop := ∀ (n sl : Nat) (b : mg_A) (w u : Nat) (pl : Nat → Nat) (c : Nat) (S : mv_S) (p0 d : Nat) (Q : (Option Value ⊕ Nat) → mi_H → Prop), w + K = 103 → w ≤ u → c ≤ 5000 → gCx n sl b w u pl c N BN tb bd → mg_S b p0 S → p0 + 5 < n → (∀ i, w ≤ i → i < u → ¬ p0 = pl i) → mv_ok S → gNd tb N S K → mo_NB tb bd S.at → 4 * K + 120 ≤ d → (∀ n' sl' b', gPo n b w u pl N BN tb bd (ma_go tb bd K S c) n' sl' b' → Q (.inl (some (.int (Int32.ofNat (ma_go tb bd K S c).1)))) (n', sl', hd b' f0)) → mi_W d 197 0 (mi_en 6 [.ref 505, .ref p0]) [] (n, sl, hd b f0) Q
def gWf (b b1 : mg_A) : Prop := (∀ q, ¬ q = 564 → ¬ q = 565 → b1.I q = b.I q) ∧ (∀ q, ¬ q = 567 → b1.J q = b.J q) ∧ b1.P = b.P ∧ b1.L = b.L ∧ b1.s = b.s ∧ b1.B = b.B ∧ b1.D = b.D
section
variable {d n sl N BN w u i k q x kd m c K : Nat} {b b0 b1 b2 : mg_A} {f0 : Nat → mi_C} {pl : Nat → Nat} {tb : Nat → ms_N} {bd : Nat → Int64 × Int64} {S : mv_S} {r : ma_R} {go : mv_S → Nat → ma_R} {o : Except Nat mv_Z} {Q : (Option Value ⊕ Nat) → mi_H → Prop} {v : Int64} {Z : mv_Z} {pp : Nat × Int64 × Nat}
theorem ma_s2_f (h : 5000 < c + 1) : ma_s2 go o pp c = (2, c + 1, []) := if_pos h
theorem ma_s2_e (h : ¬ 5000 < c + 1) : ma_s2 go (.error x) pp c = (0, c + 1, []) := by
  unfold ma_s2
  rw [if_neg h]
theorem ma_s2_w (h : ¬ 5000 < c + 1) (hw : 0 < Z.ws.1) : ma_s2 go (.ok Z) pp c = (1, c + 1, [pp]) := by
  unfold ma_s2
  rw [if_neg h]
  dsimp only
  rw [if_pos hw]
theorem ma_s2_g (h : ¬ 5000 < c + 1) (hw : ¬ 0 < Z.ws.1) : ma_s2 go (.ok Z) pp c = ((go Z.S (c + 1)).1, (go Z.S (c + 1)).2.1, pp :: (go Z.S (c + 1)).2.2) := by
  unfold ma_s2
  rw [if_neg h]
  dsimp only
  rw [if_neg hw]
theorem ma_st_2 {s : ma_P} : ma_st tb bd go S s c = ma_s2 go (ma_ou tb bd S s) (s.1, s.2.1, s.2.2.1) c := by
  unfold ma_st ma_s2
  cases ma_ou tb bd S s <;> rfl
theorem gAf.dn (h : gAf (w + 1) u pl b b1) : gAf w u pl b b1 := ⟨h.1, h.2.1, h.2.2.1, h.2.2.2.1, fun k r hr => h.2.2.2.2.1 k r (fun i h1 h2 => hr i (by omega) h2), fun i hi => h.2.2.2.2.2 i (by omega)⟩
theorem g_cpw {f l6 : Int32} {p0 : Nat} {kk : Int32} (hn : 575 ≤ n) (hw : w ≤ 102) (h74 : b.I 505 74 = Int32.ofNat (w + 1)) (KK : ∀ b' l7, gWf b b' → (∀ j, j < w + 1 → b'.I 564 j = b.I 562 j ∧ b'.I 565 j = b.I 563 j ∧ b'.J 567 j = b.J 566 j) → mi_W d 198 139 [some (.ref 505), some (.ref p0), some (.int f), some (.int kk), some (.long v), none, some (.int l6), some (.int l7)] [] (n, sl, hd b' f0) Q) : ∀ (t k : Nat) (b1 : mg_A), k + t = w + 1 → gWf b b1 → (∀ j, j < k → b1.I 564 j = b.I 562 j ∧ b1.I 565 j = b.I 563 j ∧ b1.J 567 j = b.J 566 j) → mi_W d 198 82 [some (.ref 505), some (.ref p0), some (.int f), some (.int kk), some (.long v), none, some (.int l6), some (.int (Int32.ofNat k))] [] (n, sl, hd b1 f0) Q := by
  intro t
  induction t with
  | zero =>
    intro k b1 hk f1 h1
    have g74 : b1.I 505 74 = Int32.ofNat (w + 1) := by rw [f1.1 505 (by decide) (by decide)]; exact h74
    refine b_198_82 _ _ _ (by first | (exact hd_9) | assumption) (by omega) (by exact mL_get (by decide)) ?_ ?_
    · intro z82
      exact KK b1 _ f1 (fun j hj => h1 j (by omega))
    · intro z82
      exact absurd ((i_le g74 rfl (by omega) (by omega)).mpr (by omega)) z82
  | succ t ih =>
    intro k b1 hk f1 h1
    have g74 : b1.I 505 74 = Int32.ofNat (w + 1) := by rw [f1.1 505 (by decide) (by decide)]; exact h74
    have hix := ix_of (w := k) (m := 2000) (by omega) (by omega)
    refine b_198_82 _ _ _ (by first | (exact hd_9) | assumption) (by omega) (by exact mL_get (by decide)) ?_ ?_
    · intro z82
      exact absurd ((i_le g74 rfl (by omega) (by omega)).mp z82) (by omega)
    · intro z82
      refine b_198_91 _ _ _ _ _ _ _ _ _ _ _ _ _ _ _ _ _ _ _ _ _ (by first | (exact hd_9) | assumption) (by omega) (by exact mL_get (by decide)) (by first | (exact hd_9) | assumption) (by omega) (by exact mL_get (by decide)) (by first | (exact hd_I (by omega) rfl) | assumption) (Or.inl (by omega)) (by first | assumption | (exact ix_of (by omega) (by omega)) | (exact ⟨by decide, rfl, by decide⟩)) (by first | (exact hd_I (by omega) rfl) | assumption) (by omega) (by first | assumption | (exact ix_of (by omega) (by omega)) | (exact ⟨by decide, rfl, by decide⟩)) (by first | (exact (congrFun (gw_I (by omega) rfl) _).trans (hd_9)) | assumption) (by omega) (by exact mL_get (by decide)) (by first | (exact (congrFun (gw_I (by omega) rfl) _).trans (hd_9)) | assumption) (by omega) (by exact mL_get (by decide)) (by first | (exact (congrFun (gw_I (by omega) rfl) _).trans (hd_J (by omega) rfl)) | (exact (congrFun (gw_I (by omega) rfl) _).trans (hd_L1 (by assumption))) | (exact (congrFun (gw_I (by omega) rfl) _).trans (hd_L2 (by assumption))) | (exact (congrFun (gw_I (by omega) rfl) _).trans (hd_L3 (by assumption))) | assumption) (by omega) (by first | assumption | (exact ix_of (by omega) (by omega)) | (exact ⟨by decide, rfl, by decide⟩)) (by first | (exact (congrFun (gw_I (by omega) rfl) _).trans (hd_J (by omega) rfl)) | (exact (congrFun (gw_I (by omega) rfl) _).trans (hd_L1 (by assumption))) | (exact (congrFun (gw_I (by omega) rfl) _).trans (hd_L2 (by assumption))) | (exact (congrFun (gw_I (by omega) rfl) _).trans (hd_L3 (by assumption))) | assumption) (by omega) (by first | assumption | (exact ix_of (by omega) (by omega)) | (exact ⟨by decide, rfl, by decide⟩)) (by first | (exact (congrFun (hw_2 (gw_I (by omega) rfl) ((by first | exact gw_J (by omega) rfl | exact gw_L1 (by assumption) | exact gw_L2 (by assumption) | exact gw_L3 (by assumption)))) _).trans (hd_9)) | assumption) (by omega) (by exact mL_get (by decide)) (by first | (exact (congrFun (hw_2 (gw_I (by omega) rfl) ((by first | exact gw_J (by omega) rfl | exact gw_L1 (by assumption) | exact gw_L2 (by assumption) | exact gw_L3 (by assumption)))) _).trans (hd_9)) | assumption) (by omega) (by exact mL_get (by decide)) (by first | (exact (congrFun (hw_2 (gw_I (by omega) rfl) ((by first | exact gw_J (by omega) rfl | exact gw_L1 (by assumption) | exact gw_L2 (by assumption) | exact gw_L3 (by assumption)))) _).trans (hd_I (by omega) rfl)) | assumption) (Or.inl (by omega)) (by first | assumption | (exact ix_of (by omega) (by omega)) | (exact ⟨by decide, rfl, by decide⟩)) (by first | (exact (congrFun (hw_2 (gw_I (by omega) rfl) ((by first | exact gw_J (by omega) rfl | exact gw_L1 (by assumption) | exact gw_L2 (by assumption) | exact gw_L3 (by assumption)))) _).trans (hd_I (by omega) rfl)) | assumption) (by omega) (by first | assumption | (exact ix_of (by omega) (by omega)) | (exact ⟨by decide, rfl, by decide⟩)) ?_
      refine hw_W (hw_2 (hw_2 (gw_I (by omega) rfl) ((by first | exact gw_J (by omega) rfl | exact gw_L1 (by assumption) | exact gw_L2 (by assumption) | exact gw_L3 (by assumption)))) (gw_I (by omega) rfl)) ?_
      rw [of_succ]
      refine ih (k + 1) _ (by omega) ⟨fun q h1 h2 => ?_, fun q h1 => ?_, f1.2.2⟩ (fun j hj => ?_)
      · refine Eq.trans ?_ (f1.1 q h1 h2)
        exact (va_ne h2).trans (va_ne h1)
      · refine Eq.trans ?_ (f1.2.1 q h1)
        exact va_ne h1
      · show upd (b1.I 564) k (b1.I 562 k) j = _ ∧ upd (b1.I 565) k (b1.I 563 k) j = _ ∧ vp_updL (b1.J 567) k (b1.J 566 k) j = _
        by_cases e : j = k
        · rw [e, upd_at, upd_at, upL_at, f1.1 562 (by decide) (by decide), f1.1 563 (by decide) (by decide), f1.2.1 566 (by decide)]
          exact ⟨rfl, rfl, rfl⟩
        · rw [upd_ne e, upd_ne e, upL_ne e]
          exact h1 j (by omega)
theorem g_stepped {f : Int32} (IG : gIG f0 N BN tb bd K) (hw : w + (K + 1) = 103) (hwu : w < u) (hc : c ≤ 5000) (hC : gCx n sl b w u pl c N BN tb bd) (hok : ∀ Z, o = .ok Z → f = 0 ∧ mg_S b (pl w) Z.S ∧ b.I 505 47 = Int32.ofNat Z.ws.1 ∧ Z.ws.1 ≤ 148 ∧ mv_ok Z.S ∧ gNd tb N Z.S K ∧ mo_NB tb bd Z.S.at) (her : ∀ x, o = .error x → ¬ f = 0) (hkd : kd ≤ 4) (hdd : 4 * K + 121 ≤ d) (KK : ∀ n' sl' b', gPo n b w u pl N BN tb bd (ma_s2 (ma_go tb bd K) o (kd, v, m) c) n' sl' b' → Q (.inl (some (.int (Int32.ofNat (ma_s2 (ma_go tb bd K) o (kd, v, m) c).1)))) (n', sl', hd b' f0)) : mi_W d 198 0 (mi_en 8 [.ref 505, .ref (pl w), .int f, .int (Int32.ofNat kd), .long v, .int (mz_lk m)]) [] (n, sl, hd b f0) Q := by
  obtain ⟨hT, h57, hBy, ⟨h73, hc1⟩, h74, hw3⟩ := hC
  have hn := hBy.2.2.2.2.2.2.2
  obtain ⟨dd, rfl⟩ : ∃ dd, d = dd + 1 := ⟨d - 1, by omega⟩
  have hixw : mi_ix (b.I 505 74) 2000 w := by
    rw [h74]
    exact ix_of (by omega) (by omega)
  have a73 : gAf w u pl b (b.sX 73 (Int32.ofNat (c + 1))) := gAf.sX (by omega)
  have C73 : ∀ (b' : mg_A), gAf w u pl b b' → b'.B = b.B → b'.D = b.D → b'.I 505 73 = Int32.ofNat (c + 1) → b'.I 505 74 = Int32.ofNat w → gCx n sl b' w u pl (c + 1) N BN tb bd := fun b' f' hB hD e73 e74 => ⟨hT.af f', by rw [f'.2.2.1 57 (by omega)]; exact h57, hBy.to hB hD, ⟨e73, by omega⟩, e74, hw3⟩
  have e73 : (b.sX 73 (Int32.ofNat (c + 1))).I 505 73 = Int32.ofNat (c + 1) := rfl
  by_cases hc5 : 5000 < c + 1
  · rw [ma_s2_f hc5] at KK
    refine b_198_0 _ _ _ (by first | (exact hd_9) | assumption) (by omega) (by exact mL_get (by decide)) (by first | (exact hd_9) | assumption) (by omega) (by rw [mL_len]; decide) ?_ ?_
    · intro z0
      rw [h73, of_succ] at z0
      exact absurd ((i_le (b := 5000) rfl rfl (by omega) (by omega)).mp z0) (by omega)
    · intro z0
      refine hw_W (gw_X (by decide)) ?_
      rw [h73, of_succ]
      refine b_198_17 _ _ _ ?_
      exact KK n sl _ ⟨u, pl, C73 _ a73 rfl rfl rfl h74, a73, Nat.le_refl _, ⟨fun _ _ => rfl, fun i h1 h2 => absurd h2 (by omega)⟩, Nat.le_refl _, fun _ _ => rfl, ⟨fun _ => rfl, fun h => absurd h (show ¬ (2 : Nat) = 1 by decide)⟩, (show (2 : Nat) ≤ 2 by decide)⟩
  · have hz0 : b.I 505 73 + 1 ≤ 5000 := by
      rw [h73, of_succ]
      exact (i_le (b := 5000) rfl rfl (by omega) (by omega)).mpr (by omega)
    cases ho : o with
    | error x =>
      rw [ho, ma_s2_e hc5] at KK
      have hf := her x ho
      refine b_198_0 _ _ _ (by first | (exact hd_9) | assumption) (by omega) (by exact mL_get (by decide)) (by first | (exact hd_9) | assumption) (by omega) (by rw [mL_len]; decide) ?_ ?_
      · intro z0
        refine hw_W (gw_X (by decide)) ?_
        rw [h73, of_succ]
        refine b_198_19 _ _ _ ?_ ?_
        · intro z19
          exact absurd z19 hf
        · intro z19
          refine b_198_23 _ _ _ ?_
          exact KK n sl _ ⟨u, pl, C73 _ a73 rfl rfl rfl h74, a73, Nat.le_refl _, ⟨fun _ _ => rfl, fun i h1 h2 => absurd h2 (by omega)⟩, Nat.le_refl _, fun _ _ => rfl, ⟨fun _ => rfl, fun h => absurd h (show ¬ (0 : Nat) = 1 by decide)⟩, (show (0 : Nat) ≤ 2 by decide)⟩
      · intro z0
        exact absurd hz0 z0
    | ok Z =>
      rw [ho] at KK
      obtain ⟨hf0, hSt, h47, hw148, hS, hNd, hNB⟩ := hok Z ho
      subst hf0
      have hixw1 : mi_ix ((b.sX 73 (Int32.ofNat (c + 1))).I 505 74) 2000 w := hixw
      have fW : gAf w u pl b ((((((b.sX 73 (Int32.ofNat (c + 1))).sI 562 (upd (b.I 562) w (Int32.ofNat kd))).sJ 566 (vp_updL (b.J 566) w v)).sX 74 (b.I 505 74 + 1)).sI 563 (upd (b.I 563) w (mz_lk m)))) := ((((a73.trans (gAf.sIw (q := 562) (Or.inl rfl)) (Nat.le_refl _) (fun _ _ => rfl)).trans gAf.sJw (Nat.le_refl _) (fun _ _ => rfl)).trans (gAf.sX (by omega)) (Nat.le_refl _) (fun _ _ => rfl)).trans (gAf.sIw (q := 563) (Or.inr rfl)) (Nat.le_refl _) (fun _ _ => rfl))
      have W74 : (((((b.sX 73 (Int32.ofNat (c + 1))).sI 562 (upd (b.I 562) w (Int32.ofNat kd))).sJ 566 (vp_updL (b.J 566) w v)).sX 74 (b.I 505 74 + 1)).sI 563 (upd (b.I 563) w (mz_lk m))).I 505 74 = Int32.ofNat (w + 1) := (show b.I 505 74 + 1 = Int32.ofNat (w + 1) by rw [h74, of_succ])
      have W73 : (((((b.sX 73 (Int32.ofNat (c + 1))).sI 562 (upd (b.I 562) w (Int32.ofNat kd))).sJ 566 (vp_updL (b.J 566) w v)).sX 74 (b.I 505 74 + 1)).sI 563 (upd (b.I 563) w (mz_lk m))).I 505 73 = Int32.ofNat (c + 1) := rfl
      have W75 : (((((b.sX 73 (Int32.ofNat (c + 1))).sI 562 (upd (b.I 562) w (Int32.ofNat kd))).sJ 566 (vp_updL (b.J 566) w v)).sX 74 (b.I 505 74 + 1)).sI 563 (upd (b.I 563) w (mz_lk m))).I 505 75 = b.I 505 75 := rfl
      have W47 : (((((b.sX 73 (Int32.ofNat (c + 1))).sI 562 (upd (b.I 562) w (Int32.ofNat kd))).sJ 566 (vp_updL (b.J 566) w v)).sX 74 (b.I 505 74 + 1)).sI 563 (upd (b.I 563) w (mz_lk m))).I 505 47 = b.I 505 47 := rfl
      have Ww : (((((b.sX 73 (Int32.ofNat (c + 1))).sI 562 (upd (b.I 562) w (Int32.ofNat kd))).sJ 566 (vp_updL (b.J 566) w v)).sX 74 (b.I 505 74 + 1)).sI 563 (upd (b.I 563) w (mz_lk m))).I 562 = upd (b.I 562) w (Int32.ofNat kd) ∧ (((((b.sX 73 (Int32.ofNat (c + 1))).sI 562 (upd (b.I 562) w (Int32.ofNat kd))).sJ 566 (vp_updL (b.J 566) w v)).sX 74 (b.I 505 74 + 1)).sI 563 (upd (b.I 563) w (mz_lk m))).I 563 = upd (b.I 563) w (mz_lk m) ∧ (((((b.sX 73 (Int32.ofNat (c + 1))).sI 562 (upd (b.I 562) w (Int32.ofNat kd))).sJ 566 (vp_updL (b.J 566) w v)).sX 74 (b.I 505 74 + 1)).sI 563 (upd (b.I 563) w (mz_lk m))).J 566 = vp_updL (b.J 566) w v := ⟨rfl, rfl, rfl⟩
      have WB : (((((b.sX 73 (Int32.ofNat (c + 1))).sI 562 (upd (b.I 562) w (Int32.ofNat kd))).sJ 566 (vp_updL (b.J 566) w v)).sX 74 (b.I 505 74 + 1)).sI 563 (upd (b.I 563) w (mz_lk m))).B = b.B ∧ (((((b.sX 73 (Int32.ofNat (c + 1))).sI 562 (upd (b.I 562) w (Int32.ofNat kd))).sJ 566 (vp_updL (b.J 566) w v)).sX 74 (b.I 505 74 + 1)).sI 563 (upd (b.I 563) w (mz_lk m))).D = b.D := ⟨rfl, rfl⟩
      have WS : mg_S (((((b.sX 73 (Int32.ofNat (c + 1))).sI 562 (upd (b.I 562) w (Int32.ofNat kd))).sJ 566 (vp_updL (b.J 566) w v)).sX 74 (b.I 505 74 + 1)).sI 563 (upd (b.I 563) w (mz_lk m))) (pl w) Z.S := hSt
      generalize hW : ((((b.sX 73 (Int32.ofNat (c + 1))).sI 562 (upd (b.I 562) w (Int32.ofNat kd))).sJ 566 (vp_updL (b.J 566) w v)).sX 74 (b.I 505 74 + 1)).sI 563 (upd (b.I 563) w (mz_lk m)) = W at *
      have W562 : ∀ j, j < w + 1 → W.I 562 j = (if j = w then Int32.ofNat kd else b.I 562 j) ∧ W.I 563 j = (if j = w then mz_lk m else b.I 563 j) ∧ W.J 566 j = (if j = w then v else b.J 566 j) := fun j hj => by
        rw [Ww.1, Ww.2.1, Ww.2.2]
        by_cases e : j = w
        · rw [e, upd_at, upd_at, upL_at, if_pos rfl, if_pos rfl, if_pos rfl]
          exact ⟨rfl, rfl, rfl⟩
        · rw [upd_ne e, upd_ne e, upL_ne e, if_neg e, if_neg e, if_neg e]
          exact ⟨rfl, rfl, rfl⟩
      have hgo : ∀ {pc ls st}, mi_W (dd + 1) 198 pc ls st (n, sl, hd W f0) Q → ∀ {b9 : mg_A}, b9 = W → mi_W (dd + 1) 198 pc ls st (n, sl, hd b9 f0) Q := fun h b9 e => by
        rw [e]
        exact h
      have C74 : gCx n sl W (w + 1) u pl (c + 1) N BN tb bd := ⟨hT.af fW, by rw [fW.2.2.1 57 (by omega)]; exact h57, hBy.to WB.1 WB.2, ⟨W73, by omega⟩, W74, by omega⟩
      have hdec : Int32.ofNat (w + 1) - 1 = Int32.ofNat w := of_sub1 w
      by_cases hws : 0 < Z.ws.1
      · rw [ma_s2_w hc5 hws] at KK
        refine b_198_0 _ _ _ (by first | (exact hd_9) | assumption) (by omega) (by exact mL_get (by decide)) (by first | (exact hd_9) | assumption) (by omega) (by rw [mL_len]; decide) ?_ ?_
        · intro z0
          refine hw_W (gw_X (by decide)) ?_
          rw [h73, of_succ]
          refine b_198_19 _ _ _ ?_ ?_
          · intro z19
            refine b_198_25 _ _ _ _ _ _ _ _ _ _ _ _ (by first | (exact hd_9) | assumption) (by omega) (by exact mL_get (by decide)) (by first | (exact hd_9) | assumption) (by omega) (by exact mL_get (by decide)) (by first | (exact hd_I (by omega) rfl) | assumption) (by omega) (by first | assumption | (exact ix_of (by omega) (by omega)) | (exact ⟨by decide, rfl, by decide⟩)) (by first | (exact (congrFun (gw_I (by omega) rfl) _).trans (hd_9)) | assumption) (by omega) (by exact mL_get (by decide)) (by first | (exact (congrFun (gw_I (by omega) rfl) _).trans (hd_9)) | assumption) (by omega) (by exact mL_get (by decide)) (by first | (exact (congrFun (gw_I (by omega) rfl) _).trans (hd_J (by omega) rfl)) | (exact (congrFun (gw_I (by omega) rfl) _).trans (hd_L1 (by assumption))) | (exact (congrFun (gw_I (by omega) rfl) _).trans (hd_L2 (by assumption))) | (exact (congrFun (gw_I (by omega) rfl) _).trans (hd_L3 (by assumption))) | assumption) (by omega) (by first | assumption | (exact ix_of (by omega) (by omega)) | (exact ⟨by decide, rfl, by decide⟩)) (by first | (exact (congrFun (hw_2 (gw_I (by omega) rfl) ((by first | exact gw_J (by omega) rfl | exact gw_L1 (by assumption) | exact gw_L2 (by assumption) | exact gw_L3 (by assumption)))) _).trans (hd_9)) | assumption) (by omega) (by exact mL_get (by decide)) (by first | (exact (congrFun (hw_2 (gw_I (by omega) rfl) ((by first | exact gw_J (by omega) rfl | exact gw_L1 (by assumption) | exact gw_L2 (by assumption) | exact gw_L3 (by assumption)))) _).trans (hd_9)) | assumption) (by omega) (by exact mL_get (by decide)) (by first | (exact (congrFun (hw_2 (gw_I (by omega) rfl) ((by first | exact gw_J (by omega) rfl | exact gw_L1 (by assumption) | exact gw_L2 (by assumption) | exact gw_L3 (by assumption)))) _).trans (hd_9)) | assumption) (by omega) (by rw [mL_len]; decide) (by first | (exact (congrFun (hw_2 (hw_2 (gw_I (by omega) rfl) ((by first | exact gw_J (by omega) rfl | exact gw_L1 (by assumption) | exact gw_L2 (by assumption) | exact gw_L3 (by assumption)))) (gw_X (by decide))) _).trans (hd_I (by omega) rfl)) | assumption) (by omega) (by first | assumption | (exact ix_of (by omega) (by omega)) | (exact ⟨by decide, rfl, by decide⟩)) (by first | (exact (congrFun (hw_2 (hw_2 (hw_2 (gw_I (by omega) rfl) ((by first | exact gw_J (by omega) rfl | exact gw_L1 (by assumption) | exact gw_L2 (by assumption) | exact gw_L3 (by assumption)))) (gw_X (by decide))) (gw_I (by omega) rfl)) _).trans (hd_9)) | assumption) (by omega) (by exact mL_get (by decide)) ?_ ?_
            · intro z25
              exact absurd ((i_le (b := 0) h47 rfl (by omega) (by omega)).mp z25) (by omega)
            · intro z25
              refine hw_W (hw_2 (hw_2 (hw_2 (gw_I (by omega) rfl) ((by first | exact gw_J (by omega) rfl | exact gw_L1 (by assumption) | exact gw_L2 (by assumption) | exact gw_L3 (by assumption)))) (gw_X (by decide))) (gw_I (by omega) rfl)) ?_
              refine hgo ?_ (by rw [← hW]; rfl)
              refine b_198_71 _ _ _ (by first | (exact hd_9) | assumption) (by omega) (by exact mL_get (by decide)) (by first | (exact hd_9) | assumption) (by omega) (by rw [mL_len]; decide) ?_
              refine hw_W (gw_X (by decide)) ?_
              rw [W74]
              have f71 : gAf w u pl b (W.sX 75 (Int32.ofNat (w + 1))) := fW.trans (gAf.sX (by omega)) (Nat.le_refl _) (fun _ _ => rfl)
              refine g_cpw (w := w) hn (by omega) (show (W.sX 75 (Int32.ofNat (w + 1))).I 505 74 = Int32.ofNat (w + 1) from W74) (fun b' l7 f' h' => ?_) (w + 1) 0 _ (by omega) ⟨fun _ _ _ => rfl, fun _ _ => rfl, rfl, rfl, rfl, rfl, rfl⟩ (fun j hj => absurd hj (Nat.not_lt_zero j))
              have g74 : b'.I 505 74 = Int32.ofNat (w + 1) := by rw [f'.1 505 (by decide) (by decide)]; exact W74
              have g73 : b'.I 505 73 = Int32.ofNat (c + 1) := by rw [f'.1 505 (by decide) (by decide)]; exact W73
              have g75 : b'.I 505 75 = Int32.ofNat (w + 1) := by rw [f'.1 505 (by decide) (by decide)]; rfl
              have fB : gAf w u pl (W.sX 75 (Int32.ofNat (w + 1))) b' := ⟨fun q _ _ _ h4 => f'.1 q (by omega) (by omega), fun q _ _ _ _ _ h6 => f'.2.1 q h6, fun j _ => by rw [f'.1 505 (by decide) (by decide)], fun j _ _ => by rw [f'.2.1 505 (by decide)], fun k r _ => by rw [f'.2.2.1, f'.2.2.2.1]; exact ⟨rfl, rfl⟩, fun i _ => by rw [f'.1 562 (by decide) (by decide), f'.1 563 (by decide) (by decide), f'.2.1 566 (by decide)]; exact ⟨rfl, rfl, rfl⟩⟩
              have fE : gAf w u pl b (b'.sX 74 (Int32.ofNat w)) := (f71.trans fB (Nat.le_refl _) (fun _ _ => rfl)).trans (gAf.sX (by omega)) (Nat.le_refl _) (fun _ _ => rfl)
              refine b_198_139 _ _ _ (by first | (exact hd_9) | assumption) (by omega) (by exact mL_get (by decide)) (by first | (exact hd_9) | assumption) (by omega) (by rw [mL_len]; decide) ?_
              refine hw_Q (gw_X (by decide)) ?_
              rw [g74, hdec]
              refine KK n sl _ ⟨u, pl, C73 _ fE ?_ ?_ g73 rfl, fE, Nat.le_refl _, ⟨fun _ _ => rfl, fun i h1 h2 => absurd h2 (by omega)⟩, Nat.le_refl _, fun q _ => ?_, ⟨fun h => absurd rfl h, fun _ => ⟨g75, by show w + 1 ≤ 104; omega, fun i hi => ?_, fun i p hp => ?_⟩⟩, (show (1 : Nat) ≤ 2 by decide)⟩
              · exact f'.2.2.2.2.2.1.trans WB.1
              · exact f'.2.2.2.2.2.2.trans WB.2
              · exact congrFun (f'.2.2.2.2.2.2.trans WB.2) q
              · show b'.I 564 i = _ ∧ b'.I 565 i = _ ∧ b'.J 567 i = _
                have hh := h' i (by omega)
                have hq := W562 i (by omega)
                rw [if_neg (by omega), if_neg (by omega), if_neg (by omega)] at hq
                exact ⟨hh.1.trans hq.1, hh.2.1.trans hq.2.1, hh.2.2.trans hq.2.2⟩
              · have hi0 : i = 0 := by
                  cases i with
                  | zero => rfl
                  | succ i =>
                    have hp : ([] : List (Nat × Int64 × Nat))[i]? = some p := hp
                    simp at hp
                subst hi0
                have hp : some (kd, v, m) = some p := hp
                cases hp
                show b'.I 564 (w + 0) = _ ∧ b'.J 567 (w + 0) = _ ∧ b'.I 565 (w + 0) = _
                rw [Nat.add_zero]
                have hh := h' w (by omega)
                have hq := W562 w (by omega)
                rw [if_pos rfl, if_pos rfl, if_pos rfl] at hq
                exact ⟨hh.1.trans hq.1, hh.2.2.trans hq.2.2, hh.2.1.trans hq.2.1⟩
          · intro z19
            exact absurd rfl z19
        · intro z0
          exact absurd hz0 z0
      · rw [ma_s2_g hc5 hws] at KK
        refine b_198_0 _ _ _ (by first | (exact hd_9) | assumption) (by omega) (by exact mL_get (by decide)) (by first | (exact hd_9) | assumption) (by omega) (by rw [mL_len]; decide) ?_ ?_
        · intro z0
          refine hw_W (gw_X (by decide)) ?_
          rw [h73, of_succ]
          refine b_198_19 _ _ _ ?_ ?_
          · intro z19
            refine b_198_25 _ _ _ _ _ _ _ _ _ _ _ _ (by first | (exact hd_9) | assumption) (by omega) (by exact mL_get (by decide)) (by first | (exact hd_9) | assumption) (by omega) (by exact mL_get (by decide)) (by first | (exact hd_I (by omega) rfl) | assumption) (by omega) (by first | assumption | (exact ix_of (by omega) (by omega)) | (exact ⟨by decide, rfl, by decide⟩)) (by first | (exact (congrFun (gw_I (by omega) rfl) _).trans (hd_9)) | assumption) (by omega) (by exact mL_get (by decide)) (by first | (exact (congrFun (gw_I (by omega) rfl) _).trans (hd_9)) | assumption) (by omega) (by exact mL_get (by decide)) (by first | (exact (congrFun (gw_I (by omega) rfl) _).trans (hd_J (by omega) rfl)) | (exact (congrFun (gw_I (by omega) rfl) _).trans (hd_L1 (by assumption))) | (exact (congrFun (gw_I (by omega) rfl) _).trans (hd_L2 (by assumption))) | (exact (congrFun (gw_I (by omega) rfl) _).trans (hd_L3 (by assumption))) | assumption) (by omega) (by first | assumption | (exact ix_of (by omega) (by omega)) | (exact ⟨by decide, rfl, by decide⟩)) (by first | (exact (congrFun (hw_2 (gw_I (by omega) rfl) ((by first | exact gw_J (by omega) rfl | exact gw_L1 (by assumption) | exact gw_L2 (by assumption) | exact gw_L3 (by assumption)))) _).trans (hd_9)) | assumption) (by omega) (by exact mL_get (by decide)) (by first | (exact (congrFun (hw_2 (gw_I (by omega) rfl) ((by first | exact gw_J (by omega) rfl | exact gw_L1 (by assumption) | exact gw_L2 (by assumption) | exact gw_L3 (by assumption)))) _).trans (hd_9)) | assumption) (by omega) (by exact mL_get (by decide)) (by first | (exact (congrFun (hw_2 (gw_I (by omega) rfl) ((by first | exact gw_J (by omega) rfl | exact gw_L1 (by assumption) | exact gw_L2 (by assumption) | exact gw_L3 (by assumption)))) _).trans (hd_9)) | assumption) (by omega) (by rw [mL_len]; decide) (by first | (exact (congrFun (hw_2 (hw_2 (gw_I (by omega) rfl) ((by first | exact gw_J (by omega) rfl | exact gw_L1 (by assumption) | exact gw_L2 (by assumption) | exact gw_L3 (by assumption)))) (gw_X (by decide))) _).trans (hd_I (by omega) rfl)) | assumption) (by omega) (by first | assumption | (exact ix_of (by omega) (by omega)) | (exact ⟨by decide, rfl, by decide⟩)) (by first | (exact (congrFun (hw_2 (hw_2 (hw_2 (gw_I (by omega) rfl) ((by first | exact gw_J (by omega) rfl | exact gw_L1 (by assumption) | exact gw_L2 (by assumption) | exact gw_L3 (by assumption)))) (gw_X (by decide))) (gw_I (by omega) rfl)) _).trans (hd_9)) | assumption) (by omega) (by exact mL_get (by decide)) ?_ ?_
            · intro z25
              refine hw_W (hw_2 (hw_2 (hw_2 (gw_I (by omega) rfl) ((by first | exact gw_J (by omega) rfl | exact gw_L1 (by assumption) | exact gw_L2 (by assumption) | exact gw_L3 (by assumption)))) (gw_X (by decide))) (gw_I (by omega) rfl)) ?_
              refine hgo ?_ (by rw [← hW]; rfl)
              refine b_198_151 _ _ _ (by first | (exact hd_9) | assumption) (by omega) ?_
              refine IG n sl W (w + 1) u pl (c + 1) Z.S (pl w) _ _ (by omega) (by omega) (by omega) C74 WS (hBy.1 w hwu).2.2.1 (fun i h1 h2 e => by have := hBy.2.2.1 w i hwu h2 e; omega) hS hNd hNB (by omega) (fun n' sl' b' hP => ?_)
              obtain ⟨u', pl', ⟨cT, c57, cBy, c73, c74, -⟩, cf, cu, cpl, cn, cD, cF, cr⟩ := hP
              refine b_198_156 _ _ _ (by first | (exact hd_9) | assumption) (by omega) (by exact mL_get (by decide)) (by first | (exact hd_9) | assumption) (by omega) (by rw [mL_len]; decide) ?_
              refine hw_Q (gw_X (by decide)) ?_
              rw [c74, hdec]
              have fE : gAf w u' pl' b (b'.sX 74 (Int32.ofNat w)) := (fW.trans cf.dn cu cpl.1).trans (gAf.sX (by omega)) (Nat.le_refl _) (fun _ _ => rfl)
              refine KK n' sl' _ ⟨u', pl', ⟨cT, c57, cBy, c73, rfl, by omega⟩, fE, cu, cpl, cn, fun q hq => (cD q hq).trans (congrFun WB.2 q), ⟨fun h => (cF.1 h).trans W75, fun h => ?_⟩, cr⟩
              obtain ⟨q1, q2, q3, q4⟩ := cF.2 h
              refine ⟨?_, ?_, fun i hi => ?_, fun i p hp => ?_⟩
              · refine q1.trans ?_
                rw [List.length_cons, Nat.add_assoc, Nat.add_comm 1]
              · rw [List.length_cons]
                omega
              · have hh := q3 i (by omega)
                have hq := W562 i (by omega)
                rw [if_neg (by omega), if_neg (by omega), if_neg (by omega)] at hq
                exact ⟨hh.1.trans hq.1, hh.2.1.trans hq.2.1, hh.2.2.trans hq.2.2⟩
              · cases i with
                | zero =>
                  have hp : some (kd, v, m) = some p := hp
                  cases hp
                  have hh := q3 w (by omega)
                  have hq := W562 w (by omega)
                  rw [if_pos rfl, if_pos rfl, if_pos rfl] at hq
                  exact ⟨hh.1.trans hq.1, hh.2.2.trans hq.2.2, hh.2.1.trans hq.2.1⟩
                | succ i =>
                  have hp : (ma_go tb bd K Z.S (c + 1)).2.2[i]? = some p := hp
                  have := q4 i p hp
                  rw [show w + (i + 1) = w + 1 + i by omega]
                  exact this
            · intro z25
              exact absurd ((i_le (b := 0) h47 rfl (by omega) (by omega)).mpr (by omega)) z25
          · intro z19
            exact absurd rfl z19
        · intro z0
          exact absurd hz0 z0
end
