/-! the first object: the inputs of a transaction -/
section
variable {d e n sl N : Nat} {a a0 a1 a2 : mh_A} {f0 : Nat → mi_C} {Q : (Option Value ⊕ Nat) → mi_H → Prop} {p q i j c k r m ip BN : Nat} {tb : Nat → ms_N} {lo hi v w : Int64} {Z : mv_Z} {bd : Nat → Int64 × Int64} {I : mv_I} {wal : Bool}
theorem cIn.mf (h : cIn a ip k I) (f : cMf p q a a1) : cIn a1 ip k I := by
  have e1 : ∀ j, a1.AI 6 ip j = a.AI 6 ip j := fun j => (f.2 6 ip j (by omega) (by omega) (by omega)).2.2.1
  have e2 : a1.AL 6 ip 4 = a.AL 6 ip 4 := (f.2 6 ip 4 (by omega) (by omega) (by omega)).2.2.2
  unfold cIn
  rw [e1, e1, e1, e1, e2]
  exact h
theorem cBd.mf (h : cBd a BN bd tb) (f : cMf p q a a1) : cBd a1 BN bd tb := by
  have e2 : a1.AL 2 3 10 = a.AL 2 3 10 := (f.2 2 3 10 (by omega) (by omega) (by omega)).2.2.2
  unfold cBd
  rw [e2]
  exact h
theorem cm_fit (hn : 575 ≤ n) (h : cM a p q N tb lo hi Z) (hfl : a.I 10 (p + 12) 4 = 0) (hS : mv_ok Z.S) (ha : mz_a tb N m) (hb : cBd a BN bd tb) (hip : ip = 35 ∨ ip = 55) (hk : k < 16) (hI : cIn a ip k I) (K : ∀ r l a', (r = 0 ∨ r = 1) → cvo cvt (mv_fits bd (mv_E tb Z.S lo hi 100) I (tb m)) false r l → cMf p q a a' → a'.I 7 p 6 = a.I 7 p 6 → a'.I 10 (p + 12) 4 = cfl l → cM a' p q N tb lo hi Z → Q (.inl (some (.int r))) (n, sl, hc a' f0)) : mi_W (e + 110) 106 0 (mi_en 7 [.ref p, .int (Int32.ofNat m), .ref ip, .int (Int32.ofNat k)]) [] (n, sl, hc a f0) Q := by
  have ho := mz_so3 ⟨(tb m).1, mz_so33 ha.2.1 (by decide)⟩ ha.2.1
  dsimp only at ho
  rcases hcm : tb m with ⟨op, A, B, D, u, x, y, z, M, F⟩
  rw [hcm] at ho K
  dsimp only at ho
  rcases ho with rfl | rfl | rfl
  · exact cm_f7 hn h hfl hS ha hb hip hk hI hcm K
  · exact cm_f8 hn h hfl hS ha hb hip hk hI hcm K
  · exact cm_f9 hn h hfl hS ha hb hip hk hI hcm K
theorem cm_acc (hn : 575 ≤ n) (hw : p = 41 ∧ wal = true ∨ p = 67 ∧ wal = false) (h : cM a p q N tb lo hi Z) (ha : mz_a tb N m) (K : ∀ a', cMf p q a a' → a'.I 10 (p + 12) 4 = a.I 10 (p + 12) 4 → cRs a p q N tb lo hi a' (mv_acc wal m v Z (tb m)) → Q (.inl none) (n, sl, hc a' f0)) : mi_W (e + 3) 108 0 (mi_en 5 [.ref p, .int (Int32.ofNat m), .long v]) [] (n, sl, hc a f0) Q := by
  have ho := mz_so3 ⟨(tb m).1, mz_so33 ha.2.1 (by decide)⟩ ha.2.1
  dsimp only at ho
  rcases hcm : tb m with ⟨op, A, B, D, u, x, y, z, M, F⟩
  rw [hcm] at ho K
  dsimp only at ho
  rcases ho with rfl | rfl | rfl
  · rcases hw with ⟨rfl, rfl⟩ | ⟨rfl, rfl⟩
    · exact cm_a7_41 hn h ha hcm K
    · exact cm_a7_67 hn h ha hcm K
  · exact cm_a8 hn h ha hcm K
  · exact cm_a9 hn h ha hcm K
theorem mv_tks_s {R : mv_R} {t : Nat} : mv_tks tb bd wal R I Z (t + 1) m = if m = 0 then .error 4 else match mv_fits bd R I (tb m) with
    | none => .error 6
    | some true => mv_acc wal m I.2.2.2.2 Z (tb m)
    | some false => mv_tks tb bd wal R I Z t (tb m).2.2.2.2.2.2.2.1 := rfl
theorem mz_lk0 (h : ¬ m = 0) : mz_lk m = Int32.ofNat m := by
  unfold mz_lk
  rw [if_neg h]
theorem cm_tkl {l4 : Int32} (hn : 575 ≤ n) (hw : p = 41 ∧ wal = true ∨ p = 67 ∧ wal = false) (hip : ip = 35 ∨ ip = 55) (hk : k < 16) (hS : mv_ok Z.S) : ∀ (t i pm m : Nat) (a : mh_A) (o7 : Option Value), i + t = 8 → mz_ls tb N (mz_ok tb N 99) t pm m → cM a p q N tb lo hi Z → a.I 7 p 6 = 0 → a.I 10 (p + 12) 4 = 0 → cBd a BN bd tb → cIn a ip k I → (∀ a', cMf p q a a' → a'.I 7 p 6 = 0 ∧ a'.I 10 (p + 12) 4 = 0 ∧ (∃ Z', mv_tks tb bd wal (mv_E tb Z.S lo hi 100) I Z t m = .ok Z' ∧ cM a' p q N tb lo hi Z') ∨ (∃ x, mv_tks tb bd wal (mv_E tb Z.S lo hi 100) I Z t m = .error x ∧ a'.I 7 p 6 = Int32.ofNat x) → Q (.inl none) (n, sl, hc a' f0)) → mi_W (e + 111) 105 38 [some (.ref p), some (.ref ip), some (.int (Int32.ofNat k)), some (.int l4), some (.int (mz_lk m)), some (.int (Int32.ofNat i)), o7] [] (n, sl, hc a f0) Q := by
  intro t
  induction t with
  | zero =>
    intro i pm m a o7 hi' hl h hel hfl hb hI K
    obtain ⟨hR, hqo, hq, hp68, hpo, hro, heo⟩ := h.R
    refine b_105_38 _ _ _ ?_ ?_
    · intro z38
      refine b_105_120 _ _ _ (by first | (exact hc_o (by first | assumption | (exact ⟨by decide, rfl⟩))) | assumption | (exact (hc_far (by omega)).trans (by assumption))) (by omega) (Nat.le_of_ble_eq_true rfl) ?_
      refine hw_Q (hw_I (by first | assumption | (exact ⟨by decide, rfl⟩)) (by decide)) ?_
      exact K _ (cMf.re.sI (Or.inr (Or.inr (Or.inr ⟨rfl, rfl, rfl⟩)))) (Or.inr ⟨4, rfl, mh_u_at (X := a.I) (c := 7) (p := p) (k := 6) (v := 4)⟩)
    · intro z38
      exact absurd ((i_le (a := 8) rfl rfl (by omega) (by omega)).mpr (by omega)) z38
  | succ t ih =>
    intro i pm m a o7 hi' hl h hel hfl hb hI K
    obtain ⟨hR, hqo, hq, hp68, hpo, hro, heo⟩ := h.R
    have hp12 := hro.1
    have hN := h.2.2.1.1.1
    have hN8 := h.2.2.1.1.2
    by_cases hm0 : m = 0
    · subst hm0
      have hlk : mz_lk 0 = -1 := rfl
      rw [hlk]
      refine b_105_38 _ _ _ ?_ ?_
      · intro z38
        exact absurd ((i_le (a := 8) rfl rfl (by omega) (by omega)).mp z38) (by omega)
      · intro z38
        refine b_105_45 _ _ _ (by first | (exact hc_o (by first | assumption | (exact ⟨by decide, rfl⟩))) | assumption | (exact (hc_far (by omega)).trans (by assumption))) (by omega) (by first | rfl | assumption) (by first | (exact hc_o (by first | assumption | (exact ⟨by decide, rfl⟩))) | assumption | (exact (hc_far (by omega)).trans (by assumption))) (by omega) ?_
        refine cv_has0 hn ?_
        refine b_105_54 _ _ _ ?_ ?_
        · intro z54
          refine b_105_120 _ _ _ (by first | (exact hc_o (by first | assumption | (exact ⟨by decide, rfl⟩))) | assumption | (exact (hc_far (by omega)).trans (by assumption))) (by omega) (Nat.le_of_ble_eq_true rfl) ?_
          refine hw_Q (hw_I (by first | assumption | (exact ⟨by decide, rfl⟩)) (by decide)) ?_
          exact K _ (cMf.re.sI (Or.inr (Or.inr (Or.inr ⟨rfl, rfl, rfl⟩)))) (Or.inr ⟨4, rfl, mh_u_at (X := a.I) (c := 7) (p := p) (k := 6) (v := 4)⟩)
        · intro z54
          first | (exact absurd z54 (by decide)) | (exact absurd (by decide) z54) | (exact absurd rfl z54) | (exact absurd z54 (of_nn (by omega))) | (exact absurd (of_np (by omega)) z54) | omega
    · have hl' : m = 0 ∨ _ := hl
      obtain ⟨hpm, hmN, hso, had, hx, hy, hfm, hls⟩ := hl'.resolve_left hm0
      have ha : mz_a tb N m := ⟨hmN, hso, had, fun h => (hx h).2, hy.2⟩
      rw [mz_lk0 hm0]
      have hix := ix_of (w := m) (m := 800) (by omega) (by omega)
      have hik := ix_of (w := k) (m := 16) (by omega) (by omega)
      obtain ⟨hipo, hip5, t0, t1, t2, t3, t4⟩ := ht6 hip
      have hu : mv_tks tb bd wal (mv_E tb Z.S lo hi 100) I Z (t + 1) m = (match mv_fits bd (mv_E tb Z.S lo hi 100) I (tb m) with | none => .error 6 | some true => mv_acc wal m I.2.2.2.2 Z (tb m) | some false => mv_tks tb bd wal (mv_E tb Z.S lo hi 100) I Z t (tb m).2.2.2.2.2.2.2.1) := by
        rw [mv_tks_s, if_neg hm0]
      have hthree := mz_so3 ⟨(tb m).1, mz_so33 hso (by decide)⟩ hso
      dsimp only at hthree
      generalize hEE : mv_E tb Z.S lo hi 100 = E at *
      refine b_105_38 _ _ _ ?_ ?_
      · intro z38
        exact absurd ((i_le (a := 8) rfl rfl (by omega) (by omega)).mp z38) (by omega)
      · intro z38
        refine b_105_45 _ _ _ (by first | (exact hc_o (by first | assumption | (exact ⟨by decide, rfl⟩))) | assumption | (exact (hc_far (by omega)).trans (by assumption))) (by omega) (by first | rfl | assumption) (by first | (exact hc_o (by first | assumption | (exact ⟨by decide, rfl⟩))) | assumption | (exact (hc_far (by omega)).trans (by assumption))) (by omega) ?_
        refine cv_has hn hN hN8 (by omega) (fun _ => ?_) (fun h => ?_)
        · refine b_105_54 _ _ _ ?_ ?_
          · intro z54
            first | (exact absurd z54 (by decide)) | (exact absurd (by decide) z54) | (exact absurd rfl z54) | (exact absurd z54 (of_nn (by omega))) | (exact absurd (of_np (by omega)) z54) | omega
          · intro z54
            refine b_105_57 _ _ _ (by first | (exact hc_o (by first | assumption | (exact ⟨by decide, rfl⟩))) | assumption | (exact (hc_far (by omega)).trans (by assumption))) (by omega) ?_
            refine cm_fit (e := e) hn h hfl hS ha hb hip hk hI (fun r1 l1 a1 b1 c1 f1 e1 g1 k1 => ?_)
            rw [hEE] at c1
            have hI1 := hI.mf f1
            have hb1 := hb.mf f1
            have e1' := e1.trans hel
            refine b_105_65 _ _ _ (by first | (exact hc_o (by first | assumption | (exact ⟨by decide, rfl⟩))) | assumption | (exact (hc_far (by omega)).trans (by assumption))) (by omega) (by first | rfl | assumption) (by first | (exact hc_o (by first | assumption | (exact ⟨by decide, rfl⟩))) | assumption | (exact (hc_far (by omega)).trans (by assumption))) (by omega) (by first | rfl | assumption) ?_ ?_
            · intro z65
              have hl1 : l1 = false := by
                cases l1
                · rfl
                · exact absurd (g1.symm.trans z65) (by decide)
              subst hl1
              obtain ⟨bb, hf, hrb⟩ : ∃ bb, mv_fits bd E I (tb m) = some bb ∧ r1 = cvt bb := by
                cases hf : mv_fits bd E I (tb m) with
                | none =>
                  rw [hf] at c1
                  exact absurd (show (false : Bool) = true from c1) (by decide)
                | some bb =>
                  rw [hf] at c1
                  exact ⟨bb, rfl, c1.2⟩
              rw [hf] at hu
              refine b_105_84 _ _ _ ?_ ?_
              · intro z84
                refine b_105_102 _ _ _ _ _ _ (by first | (exact hc_o (by first | assumption | (exact ⟨by decide, rfl⟩))) | assumption | (exact (hc_far (by omega)).trans (by assumption))) (by omega) (by first | rfl | assumption) (by first | (exact hc_o (by first | assumption | (exact ⟨by decide, rfl⟩))) | assumption | (exact (hc_far (by omega)).trans (by assumption))) (by omega) (by first | rfl | assumption) (by first | (exact hc_ai (by omega) (by first | assumption | (exact (ht9 (by assumption)).2.1) | (exact (ht9 (by assumption)).2.2.1) | (exact (ht9 (by assumption)).2.2.2) | rfl) (by decide)) | assumption | (exact (hc_far (by omega)).trans (by assumption))) (Or.inl (by omega)) (by first | assumption | (exact ix_of (by omega) (by omega)) | (exact ⟨by decide, rfl, by decide⟩)) ?_
                have hbb : bb = false := by
                  cases bb
                  · rfl
                  · exact absurd (hrb.symm.trans z84) (by decide)
                subst hbb
                dsimp only at hu
                have hz3 : a1.AI 2 3 3 m = mz_lk (tb m).2.2.2.2.2.2.2.1 := by
                  have := (k1.row hmN).1 3 (by decide) (by decide)
                  rw [this]
                  rcases hcm : tb m with ⟨op, A, B, D, u, x, y, z, M, F⟩
                  rw [hcm] at hthree
                  dsimp only at hthree
                  rcases hthree with rfl | rfl | rfl <;> rfl
                rw [hz3, of_succ]
                refine ih (i + 1) m _ a1 _ (by omega) hls k1 e1' g1 hb1 hI1 (fun a2 f2 s2 => K a2 (f1.trans f2) ?_)
                rw [hu]
                exact s2
              · intro z84
                refine b_105_89 _ _ _ _ _ _ (by first | (exact hc_o (by first | assumption | (exact ⟨by decide, rfl⟩))) | assumption | (exact (hc_far (by omega)).trans (by assumption))) (by omega) (by first | rfl | assumption) (by first | (exact hc_al (by omega) (by first | assumption | (exact (ht9 (by assumption)).2.1) | (exact (ht9 (by assumption)).2.2.1) | (exact (ht9 (by assumption)).2.2.2) | rfl)) | assumption | (exact (hc_far (by omega)).trans (by assumption))) (by omega) (by first | assumption | (exact ix_of (by omega) (by omega)) | (exact ⟨by decide, rfl, by decide⟩)) (by first | (exact hc_o (by first | assumption | (exact ⟨by decide, rfl⟩))) | assumption | (exact (hc_far (by omega)).trans (by assumption))) (by omega) ?_
                have hbb : bb = true := by
                  cases bb
                  · exact absurd hrb z84
                  · rfl
                subst hbb
                dsimp only at hu
                rw [hI1.2.2.2.2]
                refine cm_acc (e := e + 107) hn hw k1 ha (fun a2 f2 g2 s2 => ?_)
                refine b_105_101 _ _ _ ?_
                refine K a2 (f1.trans f2) ?_
                rw [hu]
                cases hs : mv_acc wal m I.2.2.2.2 Z (tb m) with
                | ok Z' =>
                  rw [hs] at s2
                  exact Or.inl ⟨s2.2.trans e1', g2.trans g1, Z', rfl, s2.1⟩
                | error x =>
                  rw [hs] at s2
                  exact Or.inr ⟨x, rfl, s2⟩
            · intro z65
              refine b_105_77 _ _ _ (by first | (exact hc_o (by first | assumption | (exact ⟨by decide, rfl⟩))) | assumption | (exact (hc_far (by omega)).trans (by assumption))) (by omega) (Nat.le_of_ble_eq_true rfl) ?_
              refine hw_Q (hw_I (by first | assumption | (exact ⟨by decide, rfl⟩)) (by decide)) ?_
              refine K _ (f1.sI (Or.inr (Or.inr (Or.inr ⟨rfl, rfl, rfl⟩)))) (Or.inr ⟨6, ?_, mh_u_at (X := a1.I) (c := 7) (p := p) (k := 6) (v := 6)⟩)
              have hl1 : l1 = true := by
                cases l1
                · exact absurd g1 z65
                · rfl
              subst hl1
              rw [hu]
              cases hf : mv_fits bd E I (tb m) with
              | none => rfl
              | some bb =>
                rw [hf] at c1
                exact absurd c1.1 (by decide)
        · exact absurd hmN h
end
