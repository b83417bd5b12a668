/-! the second object: apply -/
section
variable {d e r n sl fd many : Nat} {b b' : mg_A} {f0 : Nat → mi_C} {Q : (Option Value ⊕ Nat) → mi_H → Prop} {oc : Nat → Int32} {wr : Int32} {w : Nat → Int64} {ins : Nat → mv_I} {ev : mv_Z} {re : ma_R} {K : mx_K} {u v : Int64}
theorem gq_apply0 (h : gX r n sl b fd oc wr w many ins ev re none) (K1 : ∀ b', gX r n sl b' fd oc wr w many ins ev re none → b'.I 505 0 = 1 → Q (.inl (some (.int 0))) (n, sl, hd b' f0)) : mi_W (d + 1) 172 0 (mi_en 7 [.ref 505, .long u, .long v]) [] (n, sl, hd b f0) Q := by
  have hn := h.2.2.2.2.2.2.2.1.nn.1
  have e4 : b.I 505 4 = -1 := h.2.2.2.2.2.2.1
  have n4 : ¬ (0 : Int32) ≤ b.I 505 4 := by rw [e4]; decide
  refine b_172_0 _ _ _ (by first | (exact hd_9) | assumption) (by omega) (by rw [mL_len]; decide) (by first | (exact (congrFun (gw_X (by decide)) _).trans (hd_9)) | assumption) (by omega) (by exact mL_get (by decide)) ?_ ?_
  · intro z0
    exact absurd z0 n4
  · intro z0
    refine hw_W (gw_X (by decide)) ?_
    refine b_172_13 _ _ _ ?_
    refine b_172_18 _ _ _ (by first | (exact hd_9) | assumption) (by omega) ?_
    refine g_fl1 hn rfl (by decide) ?_
    refine b_172_22 _ _ _ ?_ ?_
    · intro z22
      first | (exact absurd z22 (by decide)) | (exact absurd (by decide) z22) | (exact absurd rfl z22) | (exact absurd z22 (of_nn (by omega))) | (exact absurd (of_np (by omega)) z22) | omega
    · intro z22
      refine b_172_25 _ _ _ ?_
      exact K1 _ h.er.er rfl
theorem gAq.fl (f : gAq b b') (h : gFl b 531) : gFl b' 531 := by
  unfold gFl
  rw [(f.2 4).1, (f.2 5).1]
  exact h
theorem gq_apply (h : gX r n sl b fd oc wr w many ins ev re (some K)) (hp : pX w (some K)) (Ke : ∀ x b', mv_tx K.1.2.2.1 K.1.2.2.2 many ins u v K.2.1 w = .error x → 1 ≤ x → x ≤ 7 → gX r n sl b' fd oc wr w 0 ins (mv_z0 K.2.1 w) re (some K) → b'.I 505 0 = 0 → Q (.inl (some (.int (Int32.ofNat x)))) (n, sl, hd b' f0)) (Kok : ∀ Z' w' b', mv_tx K.1.2.2.1 K.1.2.2.2 many ins u v K.2.1 w = .ok (Z', w') → pX w' (some (K.1, Z'.S, K.2.2)) → gX r n sl b' fd oc wr w' 0 ins Z' re (some (K.1, Z'.S, K.2.2)) → b'.I 505 0 = 0 → Q (.inl (some (.int 0))) (n, sl, hd b' f0)) : mi_W (e + 106) 172 0 (mi_en 7 [.ref 505, .long u, .long v]) [] (n, sl, hd b f0) Q := by
  have hn := h.2.2.2.2.2.2.2.1.nn.1
  have hKo : gKo b K := h.2.2.2.2.2.2.1
  obtain ⟨e4, hT, hS, -⟩ := id hKo
  have n4 : (0 : Int32) ≤ b.I 505 4 := by rw [e4]; decide
  obtain ⟨hwk0, hp'⟩ := hp
  obtain ⟨mok, mzk, mR⟩ := hp' K rfl
  have hbd : ∀ j, mv_in (K.1.2.2.2 j).1 ∧ mv_in (K.1.2.2.2 j).2 := fun j => ms_bo_in (hT.2.2 j)
  have hF0 : gFl b 531 := h.2.2.2.2.2.2.2.2
  have hW : gWa b w := h.2.2.1
  have h16 := h.2.2.2.1.2.1
  have hI := h.2.2.2.1.2.2
  have e59 : b.I 505 59 = Int32.ofNat many := h.2.2.2.1.1
  have finE : ∀ (x : Nat) (b5 : mg_A) (o5 : Option Value), mv_tx K.1.2.2.1 K.1.2.2.2 many ins u v K.2.1 w = .error x → 1 ≤ x → x ≤ 7 → gAq b b5 → b5.J 550 = b.J 550 → b5.I 505 59 = 0 → b5.I 505 0 = 0 → mi_W (e + 106) 172 108 [some (.ref 505), some (.long u), none, some (.long v), none, some (.int (Int32.ofNat x)), o5] [] (n, sl, hd ((b5.sX 47 0).sX 48 0) f0) Q := by
    intro x b5 o5 hx h1 h7 f5 j5 i5 z5
    refine g_keep (b := (b5.sX 47 0).sX 48 0) (Z := mv_z0 K.2.1 w) hn ⟨⟨rfl, Nat.zero_le _, fun i hi => absurd hi (Nat.not_lt_zero i)⟩, rfl, Nat.zero_le _, fun i hi => absurd hi (Nat.not_lt_zero i)⟩ (fun b6 f6 t6 j6 i6 z6 _ => ?_)
    have f56 : gAq b b6 := ((f5.trans (gAq.sX (k := 47) (by omega))).trans (gAq.sX (k := 48) (by omega))).trans f6
    exact Ke x b6 hx h1 h7 (h.ap f56.1 (fun j hj => by rw [j6.trans j5]; exact hW j hj) (i6.trans i5) t6 (f56.st hS) (f56.fl hF0)) (z6.trans z5)
  have finO : ∀ (Z' : mv_Z) (w' : Nat → Int64) (b7 : mg_A) (o5 : Option Value), mv_tx K.1.2.2.1 K.1.2.2.2 many ins u v K.2.1 w = .ok (Z', w') → pX w' (some (K.1, Z'.S, K.2.2)) → gAp b b7 → gWa b7 w' → b7.I 505 59 = 0 → b7.I 505 0 = 0 → mg_S b7 531 Z'.S → gFl b7 531 → gEv b7 Z' → mi_W (e + 106) 172 108 [some (.ref 505), some (.long u), none, some (.long v), none, some (.int 0), o5] [] (n, sl, hd b7 f0) Q := by
    intro Z' w' b7 o5 hx hpp f7 w7 i7 z7 s7 fl7 e7
    refine g_keep (b := b7) (Z := Z') hn e7 (fun b8 f8 t8 j8 i8 z8 _ => ?_)
    exact Kok Z' w' b8 hx hpp (h.ap (f7.trans f8.1) (fun j hj => by rw [j8]; exact w7 j hj) (i8.trans i7) t8 (f8.st s7) (f8.fl fl7)) (z8.trans z7)
  have hs0 : ((b.sX 0 0).sS (.ref 537)).s = .ref 537 := rfl
  have hS0 : mg_S ((b.sX 0 0).sS (.ref 537)) 531 K.2.1 := hS
  have o531 := mg_o531 (D := b.D)
  have o537 := mg_o537 (D := b.D)
  refine b_172_0 _ _ _ (by first | (exact hd_9) | assumption) (by omega) (by rw [mL_len]; decide) (by first | (exact (congrFun (gw_X (by decide)) _).trans (hd_9)) | assumption) (by omega) (by exact mL_get (by decide)) ?_ ?_
  · intro z0
    refine hw_W (gw_X (by decide)) ?_
    refine b_172_17 _ _ _ ?_
    refine b_172_18 _ _ _ (by first | (exact hd_9) | assumption) (by omega) ?_
    refine g_fl0 hn rfl ?_
    refine b_172_22 _ _ _ ?_ ?_
    · intro z22
      refine b_172_27 _ _ _ (by first | (exact hd_9) | assumption) (by omega) (by exact mL_get (by decide)) (by first | (exact hd_9) | assumption) (by omega) (by rw [mL_len]; decide) (by first | (exact (congrFun (gw_S) _).trans (hd_9)) | assumption) (by omega) (by exact (mL_get (by decide)).trans (congrArg some (by assumption))) (by first | (exact (congrFun (gw_S) _).trans (hd_9)) | assumption) (by omega) (by exact mL_get (by decide)) (by first | (exact (congrFun (gw_S) _).trans (hd_8 (by assumption))) | assumption) (by omega) ?_
      refine hw_W (gw_S) ?_
      refine g_copy (b := (b.sX 0 0).sS (.ref 537)) (p := 537) hn (by omega) (by omega) mg_o537 hS0 (by decide) (fun b1 f1 s1 => ?_)
      have q3 : gAq b (b1.sX 57 1) := (((gAq.sX (k := 0) (by omega)).trans gAq.sS).trans (gAq.cf f1)).trans (gAq.sX (k := 57) (by omega))
      have hq : ∀ q, ¬ q = 505 → (b1.sX 57 1).I q = b.I q := fun q hq => (va_ne hq).trans ((congrFun f1.1 q).trans (va_ne hq))
      have hJ : (b1.sX 57 1).J = b.J := f1.2.1
      have e1 : b1.I 505 59 = Int32.ofNat many := (congrFun (congrFun f1.1 505) 59).trans e59
      have z1 : b1.I 505 0 = 0 := (congrFun (congrFun f1.1 505) 0).trans rfl
      have T3 := hT.ap q3.1
      have I3 : ∀ j, j < many → gIn (b1.sX 57 1) j (ins j) := fun j hj => by unfold gIn; rw [hq 551 (by decide), hq 552 (by decide), hq 553 (by decide), hq 554 (by decide), hJ]; exact hI j hj
      have W3 : ∀ j, j < 32 → (b1.sX 57 1).J 550 j = w j := fun j hj => by rw [hJ]; exact hW j hj
      refine b_172_46 _ _ _ (by first | (exact hd_9) | assumption) (by omega) (by rw [mL_len]; decide) (by first | assumption | (exact mL_get (by decide)) | (rw [mL_len]; decide) | (simp only [mL_set]; exact mL_get (by decide)) | (simp only [mL_set, mL_len]; decide) | (exact va_eq) | (exact (va_ne (by omega)).trans (by assumption)) | (exact (va_ne (by omega)).trans va_eq) | (exact (va_ne (by omega)).trans ((va_ne (by omega)).trans (by assumption))) | (exact (va_ne (by omega)).trans ((va_ne (by omega)).trans ((va_ne (by omega)).trans (by assumption)))) | rfl | (exact Or.inl rfl) | (exact Or.inr rfl) | omega | (exact Nat.le_of_ble_eq_true rfl) | decide | (exact ⟨by decide, rfl, by decide⟩)) (by first | (exact (congrFun (gw_X (by decide)) _).trans (hd_9)) | assumption) (by omega) (by exact mL_get (by decide)) (by first | (exact (congrFun (gw_X (by decide)) _).trans (hd_9)) | assumption) (by omega) ?_
      refine hw_W (gw_X (by decide)) ?_
      show mi_W _ _ _ (mi_en 8 [.ref 505, .long u, .long v, .int (b1.I 505 59)]) _ _ _
      rw [e1]
      refine g_run (e := e) (b := b1.sX 57 1) (p := 537) (wal := true) (w := w) hn s1 f1.2.2.1 (by omega) T3.1 rfl (fun _ => W3) mok mzk (Nat.le_refl _) T3.2.1 hbd h16 I3 (fun b4 Z' k' hr f4 m4 j4 hk' => ?_) (fun b4 x hr h1 h7 f4 => ?_)
      · have q4 : gAq b b4 := q3.trans (gAq.tf f4)
        have z4 : b4.I 505 0 = 0 := (f4.2.2.2.1 0 (by decide) (by decide) (by decide) (by decide)).trans z1
        have hwk := mv_run_l hwk0 hr
        have hPs : gPs (b4.sX 59 0) Z'.ps.1 Z'.ps.2 := ⟨m4.2.2.2.2.1.2.1, m4.2.2.2.2.1.2.2.1, fun i hi => ⟨(m4.2.2.2.2.1.2.2.2 i hi).2.1, (m4.2.2.2.2.1.2.2.2 i hi).2.2.1, (m4.2.2.2.2.1.2.2.2 i hi).2.2.2, (j4.2.1 i hi).2⟩⟩
        have hlf : ∀ j, j < 32 → (b4.sX 59 0).J 550 j - (b4.sX 59 0).J 549 j = Z'.lf j := m4.2.2.2.2.2 rfl
        refine b_172_61 _ _ _ (by first | (exact hd_9) | assumption) (by omega) (by rw [mL_len]; decide) ?_ ?_
        · intro z61
          first | (exact absurd z61 (by decide)) | (exact absurd (by decide) z61) | (exact absurd rfl z61) | (exact absurd z61 (of_nn (by omega))) | (exact absurd (of_np (by omega)) z61) | omega
        · intro z61
          refine hw_W (gw_X (by decide)) ?_
          refine b_172_73 _ _ _ (by first | (exact hd_9) | assumption) (by omega) ?_
          refine g_settle (b := b4.sX 59 0) (lf := Z'.lf) hn hPs hlf hwk (fun hs6 => ?_) (fun g w' hs6 hg => ?_)
          · have j4' : b4.J 550 = b.J 550 := (f4.2.2.1 550 (by decide)).trans (congrFun hJ 550)
            have hx : mv_tx K.1.2.2.1 K.1.2.2.2 many ins u v K.2.1 w = .error 6 := by unfold mv_tx; rw [hr]; dsimp only; rw [hs6]
            refine b_172_77 _ _ _ ?_
            refine b_172_79 _ _ _ ?_ ?_
            · intro z79
              refine b_172_98 _ _ _ (by first | (exact hd_9) | assumption) (by omega) (by rw [mL_len]; decide) (by first | (exact (congrFun (gw_X (by decide)) _).trans (hd_9)) | assumption) (by omega) (by rw [mL_len]; decide) ?_
              refine hw_W (hw_2 (gw_X (by decide)) (gw_X (by decide))) ?_
              first | exact finE x (b4.sX 59 0) _ hx h1 h7 (q4.trans (gAq.sX (k := 59) (by omega))) j4 rfl z4 | exact finE 6 (b4.sX 59 0) _ hx (by decide) (by decide) (q4.trans (gAq.sX (k := 59) (by omega))) j4' rfl z4 | skip
              all_goals have hpp : pX w' (some (K.1, Z'.S, K.2.2)) := ⟨mv_set_wk _ _ _ _ hwk (fun i _ hi => ⟨(j4.2.1 i (by omega)).2.2.2.1, (j4.2.1 i (by omega)).2.2.2.2⟩) hs6, fun K' hK' => by cases hK'; exact ⟨j4.1, mz_ok_le (by omega) j4.2.2.1, mv_run_p mo_R_cp hT.1.2.2 hbd mok mzk mR hr⟩⟩
              all_goals refine finO Z' w' b7 _ hx hpp (((q4.1.trans (gAq.sX (k := 59) (by omega)).1).trans (gAq.sJ (q := 550) (Or.inl rfl)).1).trans (gAp.cf f7)) (fun j hj => ?_) ?_ ?_ s7 fl7 ?_
              all_goals first | (rw [f7.2.1]; exact hg j hj) | (rw [f7.1]; rfl) | (rw [f7.1]; exact z4) | (unfold gEv; rw [f7.1, f7.2.1]; exact m4.2.2.2.2.1)
            · intro z79
              first | (exact absurd z79 (by decide)) | (exact absurd (by decide) z79) | (exact absurd rfl z79) | (exact absurd z79 (of_nn (by omega))) | (exact absurd (of_np (by omega)) z79) | omega
          · have hx : mv_tx K.1.2.2.1 K.1.2.2.2 many ins u v K.2.1 w = .ok (Z', w') := by unfold mv_tx; rw [hr]; dsimp only; rw [hs6]
            have s6 : mg_S ((b4.sX 59 0).sJ 550 g) 537 Z'.S := m4.2.2.2.1
            have fl6 : gFl ((b4.sX 59 0).sJ 550 g) 531 := q4.fl hF0
            refine b_172_77 _ _ _ ?_
            refine b_172_79 _ _ _ ?_ ?_
            · intro z79
              first | (exact absurd z79 (by decide)) | (exact absurd (by decide) z79) | (exact absurd rfl z79) | (exact absurd z79 (of_nn (by omega))) | (exact absurd (of_np (by omega)) z79) | omega
            · intro z79
              refine b_172_84 _ _ _ (by first | (exact hd_9) | assumption) (by omega) (by exact mL_get (by decide)) (by first | (exact hd_9) | assumption) (by omega) (by exact mL_get (by decide)) (by first | (exact hd_8 (by assumption)) | assumption) (by omega) ?_
              refine g_copyf (b := (b4.sX 59 0).sJ 550 g) (p := 531) hn (by omega) (by omega) mg_o531 s6 (by decide) fl6 (fun b7 f7 fl7 s7 => ?_)
              refine b_172_95 _ _ _ ?_
              first | exact finE x (b4.sX 59 0) _ hx h1 h7 (q4.trans (gAq.sX (k := 59) (by omega))) j4 rfl z4 | exact finE 6 (b4.sX 59 0) _ hx (by decide) (by decide) (q4.trans (gAq.sX (k := 59) (by omega))) j4' rfl z4 | skip
              all_goals have hpp : pX w' (some (K.1, Z'.S, K.2.2)) := ⟨mv_set_wk _ _ _ _ hwk (fun i _ hi => ⟨(j4.2.1 i (by omega)).2.2.2.1, (j4.2.1 i (by omega)).2.2.2.2⟩) hs6, fun K' hK' => by cases hK'; exact ⟨j4.1, mz_ok_le (by omega) j4.2.2.1, mv_run_p mo_R_cp hT.1.2.2 hbd mok mzk mR hr⟩⟩
              all_goals refine finO Z' w' b7 _ hx hpp (((q4.1.trans (gAq.sX (k := 59) (by omega)).1).trans (gAq.sJ (q := 550) (Or.inl rfl)).1).trans (gAp.cf f7)) (fun j hj => ?_) ?_ ?_ s7 fl7 ?_
              all_goals first | (rw [f7.2.1]; exact hg j hj) | (rw [f7.1]; rfl) | (rw [f7.1]; exact z4) | (unfold gEv; rw [f7.1, f7.2.1]; exact m4.2.2.2.2.1)
      · have q4 : gAq b b4 := q3.trans (gAq.tf f4)
        have z4 : b4.I 505 0 = 0 := (f4.2.2.2.1 0 (by decide) (by decide) (by decide) (by decide)).trans z1
        have j4 : b4.J 550 = b.J 550 := (f4.2.2.1 550 (by decide)).trans (congrFun hJ 550)
        have hx : mv_tx K.1.2.2.1 K.1.2.2.2 many ins u v K.2.1 w = .error x := by unfold mv_tx; rw [hr]
        refine b_172_61 _ _ _ (by first | (exact hd_9) | assumption) (by omega) (by rw [mL_len]; decide) ?_ ?_
        · intro z61
          refine hw_W (gw_X (by decide)) ?_
          refine b_172_79 _ _ _ ?_ ?_
          · intro z79
            refine b_172_98 _ _ _ (by first | (exact hd_9) | assumption) (by omega) (by rw [mL_len]; decide) (by first | (exact (congrFun (gw_X (by decide)) _).trans (hd_9)) | assumption) (by omega) (by rw [mL_len]; decide) ?_
            refine hw_W (hw_2 (gw_X (by decide)) (gw_X (by decide))) ?_
            first | exact finE x (b4.sX 59 0) _ hx h1 h7 (q4.trans (gAq.sX (k := 59) (by omega))) j4 rfl z4 | exact finE 6 (b4.sX 59 0) _ hx (by decide) (by decide) (q4.trans (gAq.sX (k := 59) (by omega))) j4' rfl z4 | skip
            all_goals have hpp : pX w' (some (K.1, Z'.S, K.2.2)) := ⟨mv_set_wk _ _ _ _ hwk (fun i _ hi => ⟨(j4.2.1 i (by omega)).2.2.2.1, (j4.2.1 i (by omega)).2.2.2.2⟩) hs6, fun K' hK' => by cases hK'; exact ⟨j4.1, mz_ok_le (by omega) j4.2.2.1, mv_run_p mo_R_cp hT.1.2.2 hbd mok mzk mR hr⟩⟩
            all_goals refine finO Z' w' b7 _ hx hpp (((q4.1.trans (gAq.sX (k := 59) (by omega)).1).trans (gAq.sJ (q := 550) (Or.inl rfl)).1).trans (gAp.cf f7)) (fun j hj => ?_) ?_ ?_ s7 fl7 ?_
            all_goals first | (rw [f7.2.1]; exact hg j hj) | (rw [f7.1]; rfl) | (rw [f7.1]; exact z4) | (unfold gEv; rw [f7.1, f7.2.1]; exact m4.2.2.2.2.1)
          · intro z79
            exact absurd (of_17 h1 h7) z79
        · intro z61
          exact absurd (of_17 h1 h7) z61
    · intro z22
      first | (exact absurd z22 (by decide)) | (exact absurd (by decide) z22) | (exact absurd rfl z22) | (exact absurd z22 (of_nn (by omega))) | (exact absurd (of_np (by omega)) z22) | omega
  · intro z0
    exact absurd n4 z0
end
