/-! the first object: takeStep -/
section
variable {d e n sl N BN : Nat} {a a1 a2 : mh_A} {f0 : Nat → mi_C} {Q : (Option Value ⊕ Nat) → mi_H → Prop} {p q k l m : Nat} {tb : Nat → ms_N} {bd : Nat → Int64 × Int64} {S : mv_S} {v : Int64} {gl : Nat → Option Nat} {s : ma_P}
theorem cSt.tk {q : Nat} (h : cSt a q S) (f : cTk l a a1) (hq : ¬ q = 80 + 4 * (l + 1)) : cSt a1 q S := by
  have fI : ∀ k, a1.I 9 q k = a.I 9 q k := fun k => (f.2 9 q k (by omega) (by omega) (by omega) (by omega) (by omega) (by omega)).1
  have fL : ∀ k, a1.L 9 q k = a.L 9 q k := fun k => (f.2 9 q k (by omega) (by omega) (by omega) (by omega) (by omega) (by omega)).2.1
  have fA : ∀ k, a1.AL 9 q k = a.AL 9 q k := fun k => (f.2 9 q k (by omega) (by omega) (by omega) (by omega) (by omega) (by omega)).2.2.2
  unfold cSt
  rw [fI, fI, fI, fL, fA, fA, fA]
  exact h
theorem ca_take (hn : 575 ≤ n) (hLv : cLv f0 gl) (hl : l + 1 < 104) (hs : cSt a (80 + 4 * l) S) (hT : cTb a N BN tb bd) (hS : mv_ok S) (hok : mz_ok tb N 100 0 S.at) (hst : cStp a l s) (hv : s.2.2.1 = 0 ∨ (¬ s.2.2.1 = 0 ∧ mz_a tb N s.2.2.1)) (K1 : ∀ a' Z, ma_ou tb bd S s = .ok Z → cTk l a a' → cSt a' (80 + 4 * (l + 1)) Z.S → a'.I 8 68 6 = Int32.ofNat Z.ws.1 → Z.ws.1 ≤ 148 → Q (.inl (some (.int 1))) (n, sl, hc a' f0)) (K0 : ∀ a' x, ma_ou tb bd S s = .error x → cTk l a a' → Q (.inl (some (.int 0))) (n, sl, hc a' f0)) : mi_W (e + 114) 129 0 (mi_en 6 [.ref 54, .int (Int32.ofNat l)]) [] (n, sl, hc a f0) Q := by
  have hlv := hLv.at
  have hgl := hLv.2
  have ho1 := lv_o ⟨l, by omega⟩
  have ho2 := lv_o ⟨l + 1, hl⟩
  dsimp only at ho1 ho2
  have ho15 := ho1.1
  have ho25 := ho2.1
  obtain ⟨⟨t1, t1b⟩, t2, t3, t4⟩ := hst
  have hix := ix_of (w := l) (m := 104) (by omega) (by omega)
  have hix1 : mi_ix (Int32.ofNat l + 1) 104 (l + 1) := by
    rw [of_succ]
    exact ix_of (by omega) (by omega)
  have hro : mh_o 496 10 := ⟨by decide, rfl⟩
  have hbd : ∀ j, mv_in (bd j).1 ∧ mv_in (bd j).2 := fun j => ms_bo_in (hT.2.2 j)
  unfold ma_ou at K1 K0
  have h24 : ¬ (s.1 = 1 ∧ s.2.2.2 = true) → ∀ o4 o5 o6, mi_W (e + 114) 129 24 [some (.ref 54), some (.int (Int32.ofNat l)), some (.int (Int32.ofNat s.1)), o4, o5, o6] [] (n, sl, hc a f0) Q := by
    intro hne o4 o5 o6
    rw [if_neg hne] at K1 K0
    have t3 := t3 hne
    refine b_129_24 _ _ _ _ _ _ _ _ _ _ _ (by first | (exact hc_o (by first | assumption | (exact ⟨by decide, rfl⟩))) | assumption | (exact (hc_far (by omega)).trans (by assumption))) (by omega) (by first | rfl | assumption) (by first | (exact hlv _) | assumption) (by omega) (by first | decide | assumption) (by first | assumption | (exact ix_of (by omega) (by omega)) | (exact ⟨by decide, rfl, by decide⟩)) (by first | (exact hgl _ (by omega)) | assumption) (by first | (exact hc_o (by first | assumption | (exact ⟨by decide, rfl⟩))) | assumption | (exact (hc_far (by omega)).trans (by assumption))) (by omega) (by first | rfl | assumption) (by first | (exact hlv _) | assumption) (by omega) (by first | decide | assumption) (by first | assumption | (exact ix_of (by omega) (by omega)) | (exact ⟨by decide, rfl, by decide⟩)) (by first | (exact hgl _ (by omega)) | assumption) (by first | (exact hc_o (by first | assumption | (exact ⟨by decide, rfl⟩))) | assumption | (exact (hc_far (by omega)).trans (by assumption))) (by omega) ?_
    refine cs_copy hn ho2 hs (by omega) (fun a1 f1 s1 s1' => ?_)
    have g1 := cTk.fs f1
    have fx : ∀ k, a1.AI 11 54 k = a.AI 11 54 k ∧ a1.AL 11 54 k = a.AL 11 54 k := fun k => ⟨(f1.2 11 54 k (by omega)).2.2.1, (f1.2 11 54 k (by omega)).2.2.2⟩
    have x9 : a1.AI 11 54 9 l = mz_lk s.2.2.1 := by rw [(fx 9).1]; exact t2
    have x8 : a1.AL 11 54 8 l = s.2.1 := by rw [(fx 8).2]; exact t3
    have htm : a1.L 9 (80 + 4 * (l + 1)) 1 = S.tm := s1.2.2.1
    have h79 : ∀ (T : Int64) (a2 : mh_A) (many : Nat), cTk l a a2 → cSt a2 (80 + 4 * (l + 1)) S → many ≤ 16 → a2.I 6 55 5 = Int32.ofNat many → (∀ j, j < many → cIn a2 55 j (ma_in tb s.2.2.1 s.2.1)) → (if s.1 = 4 then s.2.1 else S.tm) = T → (if s.2.2.1 = 0 then 0 else 1) = many → mi_W (e + 114) 129 79 [some (.ref 54), some (.int (Int32.ofNat l)), some (.int (Int32.ofNat s.1)), some (.ref (80 + 4 * (l + 1))), some (.long T), none] [] (n, sl, hc a2 f0) Q := by
      intro T a2 many g2 s2 hm16 hmany hI hTT hmm
      rw [hTT, hmm] at K1 K0
      unfold ma_tx at K1 K0
      have hT2 := hT.tk g2
      refine b_129_79 _ _ _ (by first | (exact hc_o (by first | assumption | (exact ⟨by decide, rfl⟩))) | assumption | (exact (hc_far (by omega)).trans (by assumption))) (by omega) (by first | rfl | assumption) (by first | (exact hc_o (by first | assumption | (exact ⟨by decide, rfl⟩))) | assumption | (exact (hc_far (by omega)).trans (by assumption))) (by omega) (by first | rfl | assumption) (by first | (exact hc_o (by first | assumption | (exact ⟨by decide, rfl⟩))) | assumption | (exact (hc_far (by omega)).trans (by assumption))) (by omega) ?_
      refine cm_run67 (e := e) (w := fun _ => 0) hn s2 hT2.1 hS hok hT2.2.1 hbd hm16 hmany hI (fun x a3 hx h1 h7 f3 _ _ => ?_) (fun a3 Z hz f3 s3 e3 _ _ => ?_)
      · skip
        refine b_129_95 _ _ _ ?_ ?_
        · intro z95
          refine b_129_102 _ _ _ ?_
          refine b_129_103 _ _ _ (by first | assumption | (exact mL_get (by decide)) | (rw [mL_len]; decide) | (simp only [mL_set]; exact mL_get (by decide)) | (simp only [mL_set, mL_len]; decide) | (exact va_eq) | (exact (va_ne (by omega)).trans (by assumption)) | (exact (va_ne (by omega)).trans va_eq) | (exact (va_ne (by omega)).trans ((va_ne (by omega)).trans (by assumption))) | (exact (va_ne (by omega)).trans ((va_ne (by omega)).trans ((va_ne (by omega)).trans (by assumption)))) | rfl | (exact Or.inl rfl) | (exact Or.inr rfl) | omega | (exact Nat.le_of_ble_eq_true rfl) | decide | (exact ⟨by decide, rfl, by decide⟩)) ?_
          exact K0 a3 x hx (g2.trans (cTk.me f3))
        · intro z95
          exact absurd (Classical.not_not.mp z95) (of_17 h1 h7)
      · skip
        refine b_129_95 _ _ _ ?_ ?_
        · intro z95
          exact absurd rfl z95
        · intro z95
          refine b_129_98 _ _ _ ?_
          refine b_129_103 _ _ _ (by first | assumption | (exact mL_get (by decide)) | (rw [mL_len]; decide) | (simp only [mL_set]; exact mL_get (by decide)) | (simp only [mL_set, mL_len]; decide) | (exact va_eq) | (exact (va_ne (by omega)).trans (by assumption)) | (exact (va_ne (by omega)).trans va_eq) | (exact (va_ne (by omega)).trans ((va_ne (by omega)).trans (by assumption))) | (exact (va_ne (by omega)).trans ((va_ne (by omega)).trans ((va_ne (by omega)).trans (by assumption)))) | rfl | (exact Or.inl rfl) | (exact Or.inr rfl) | omega | (exact Nat.le_of_ble_eq_true rfl) | decide | (exact ⟨by decide, rfl, by decide⟩)) ?_
          exact K1 a3 Z hz (g2.trans (cTk.me f3)) s3 e3.1.1 e3.1.2.1
    have h61 : ∀ T, (if s.1 = 4 then s.2.1 else S.tm) = T → mi_W (e + 114) 129 61 [some (.ref 54), some (.int (Int32.ofNat l)), some (.int (Int32.ofNat s.1)), some (.ref (80 + 4 * (l + 1))), o5, o6] [.long T] (n, sl, hc a1 f0) Q := by
      intro T hTT
      refine b_129_61 _ _ _ _ _ _ _ _ _ (by first | (exact hc_o (by first | assumption | (exact ⟨by decide, rfl⟩))) | assumption | (exact (hc_far (by omega)).trans (by assumption))) (by omega) (by first | rfl | assumption) (by first | (exact hc_ai (by omega) (by first | assumption | (exact (ht9 (by assumption)).2.1) | (exact (ht9 (by assumption)).2.2.1) | (exact (ht9 (by assumption)).2.2.2) | rfl) (by decide)) | assumption | (exact (hc_far (by omega)).trans (by assumption))) (Or.inl (by omega)) (by first | assumption | (exact ix_of (by omega) (by omega)) | (exact ⟨by decide, rfl, by decide⟩)) (by first | (exact hc_o (by first | assumption | (exact ⟨by decide, rfl⟩))) | assumption | (exact (hc_far (by omega)).trans (by assumption))) (by omega) (by first | rfl | assumption) (by first | (exact hc_al (by omega) (by first | assumption | (exact (ht9 (by assumption)).2.1) | (exact (ht9 (by assumption)).2.2.1) | (exact (ht9 (by assumption)).2.2.2) | rfl)) | assumption | (exact (hc_far (by omega)).trans (by assumption))) (by omega) (by first | assumption | (exact ix_of (by omega) (by omega)) | (exact ⟨by decide, rfl, by decide⟩)) (by first | (exact hc_o (by first | assumption | (exact ⟨by decide, rfl⟩))) | assumption | (exact (hc_far (by omega)).trans (by assumption))) (by omega) ?_
      rw [x9, x8]
      rcases hv with hv | ⟨hv0, hva⟩
      · rw [hv]
        refine ca_in0 hn ?_
        refine h79 T _ 0 (g1.trans ⟨fun _ _ _ _ => rfl, fun c r k h1 h2 h3 h4 h5 h6 => ⟨mh_u_x (fun e => h6 ⟨e.1, e.2.1⟩), rfl, rfl, rfl⟩⟩) s1 (by decide) I_at (fun j hj => absurd hj (Nat.not_lt_zero j)) hTT (if_pos hv)
      · rw [mz_lk0 hv0]
        refine ca_in hn (hT.tk g1) hva (fun a2 f2 r2 i5 i0 => ?_)
        have g2 : cTk l a a2 := g1.trans ⟨fun c r _ _ => by rw [r2], fun c r k h1 h2 h3 h4 h5 h6 => f2 c r k h6⟩
        have s2 : cSt a2 (80 + 4 * (l + 1)) S := by
          have fz := fun k => f2 9 (80 + 4 * (l + 1)) k (by omega)
          unfold cSt
          rw [(fz 0).1, (fz 5).1, (fz 6).1, (fz 1).2.1, (fz 2).2.2.2, (fz 3).2.2.2, (fz 4).2.2.2]
          exact s1
        exact h79 T a2 1 g2 s2 (by decide) i5 (fun j hj => by rw [show j = 0 by omega]; exact i0) hTT (if_neg hv0)
    by_cases h4 : s.1 = 4
    · skip
      refine b_129_43 _ _ _ ?_ ?_
      · intro z43
        exact absurd (by rw [h4]; rfl) z43
      · intro z43
        refine b_129_48 _ _ _ _ _ _ (by first | (exact hc_o (by first | assumption | (exact ⟨by decide, rfl⟩))) | assumption | (exact (hc_far (by omega)).trans (by assumption))) (by omega) (by first | rfl | assumption) (by first | (exact hc_al (by omega) (by first | assumption | (exact (ht9 (by assumption)).2.1) | (exact (ht9 (by assumption)).2.2.1) | (exact (ht9 (by assumption)).2.2.2) | rfl)) | assumption | (exact (hc_far (by omega)).trans (by assumption))) (by omega) (by first | assumption | (exact ix_of (by omega) (by omega)) | (exact ⟨by decide, rfl, by decide⟩)) ?_
        rw [x8]
        exact h61 _ (if_pos h4)
    · skip
      refine b_129_43 _ _ _ ?_ ?_
      · intro z43
        refine b_129_57 _ _ _ (by first | (exact hc_o (by first | assumption | (exact ⟨by decide, rfl⟩))) | assumption | (exact (hc_far (by omega)).trans (by assumption))) (by omega) (by first | rfl | assumption) ?_
        rw [htm]
        exact h61 _ (if_neg h4)
      · intro z43
        exact absurd ((of_eq (b := 4) (by omega) (by omega)).mp (Classical.not_not.mp z43)) h4
  by_cases h1 : s.1 = 1
  · have hfl := t4 h1
    refine b_129_0 _ _ _ _ _ _ (by first | (exact hc_o (by first | assumption | (exact ⟨by decide, rfl⟩))) | assumption | (exact (hc_far (by omega)).trans (by assumption))) (by omega) (by first | rfl | assumption) (by first | (exact hc_ai (by omega) (by first | assumption | (exact (ht9 (by assumption)).2.1) | (exact (ht9 (by assumption)).2.2.1) | (exact (ht9 (by assumption)).2.2.2) | rfl) (by decide)) | assumption | (exact (hc_far (by omega)).trans (by assumption))) (Or.inl (by omega)) (by first | assumption | (exact ix_of (by omega) (by omega)) | (exact ⟨by decide, rfl, by decide⟩)) ?_ ?_
    · intro z0
      exact absurd (by rw [t1, h1]; rfl) z0
    · intro z0
      rw [t1]
      refine b_129_12 _ _ _ (by first | (exact hc_o (by first | assumption | (exact ⟨by decide, rfl⟩))) | assumption | (exact (hc_far (by omega)).trans (by assumption))) (by omega) (by first | rfl | assumption) (by first | (exact hc_o (by first | assumption | (exact ⟨by decide, rfl⟩))) | assumption | (exact (hc_far (by omega)).trans (by assumption))) (by omega) (by first | rfl | assumption) ?_ ?_
      · intro z12
        have hlf : ¬ (s.1 = 1 ∧ s.2.2.2 = true) := fun h => by rw [hfl, h.2] at z12; exact absurd z12 (by decide)
        exact h24 hlf _ _ _
      · intro z12
        have hlf : s.1 = 1 ∧ s.2.2.2 = true := ⟨h1, by cases hb : s.2.2.2 with | true => rfl | false => rw [hfl, hb] at z12; exact absurd rfl z12⟩
        refine b_129_22 _ _ _ ?_
        rw [if_pos hlf] at K0
        exact K0 a 6 rfl cTk.re
  · skip
    refine b_129_0 _ _ _ _ _ _ (by first | (exact hc_o (by first | assumption | (exact ⟨by decide, rfl⟩))) | assumption | (exact (hc_far (by omega)).trans (by assumption))) (by omega) (by first | rfl | assumption) (by first | (exact hc_ai (by omega) (by first | assumption | (exact (ht9 (by assumption)).2.1) | (exact (ht9 (by assumption)).2.2.1) | (exact (ht9 (by assumption)).2.2.2) | rfl) (by decide)) | assumption | (exact (hc_far (by omega)).trans (by assumption))) (Or.inl (by omega)) (by first | assumption | (exact ix_of (by omega) (by omega)) | (exact ⟨by decide, rfl, by decide⟩)) ?_ ?_
    · intro z0
      rw [t1]
      exact h24 (fun h => h1 h.1) _ _ _
    · intro z0
      exact absurd ((of_eq (b := 1) (by omega) (by omega)).mp (t1.symm.trans (Classical.not_not.mp z0))) h1
end
