/-! the first object: findStep -/
/-- what is still to be tried on a level -/
def cRem (a : mh_A) (l N : Nat) (tb : Nat → ms_N) (bd : Nat → Int64 × Int64) (S : mv_S) (R : List ma_P) : Prop := (a.AI 11 54 5 l = -3 ∧ R = ma_sp tb bd S) ∨ (a.AI 11 54 5 l = -2 ∧ R = []) ∨ ((tb S.at).1 = 4 ∧ ∃ t m j, cEnc a l N tb bd t m j ∧ R = ma_wh tb bd S t m j)
def cVal (tb : Nat → ms_N) (N : Nat) (s : ma_P) : Prop := s.2.2.1 = 0 ∨ (¬ s.2.2.1 = 0 ∧ mz_a tb N s.2.2.1)
section
variable {d e n sl N BN : Nat} {a a0 a1 a2 : mh_A} {f0 : Nat → mi_C} {Q : (Option Value ⊕ Nat) → mi_H → Prop} {p q k l m t j c r : Nat} {tb : Nat → ms_N} {bd : Nat → Int64 × Int64} {S : mv_S} {v : Int64} {gl : Nat → Option Nat} {s : ma_P} {R : List ma_P} {l4 : Int32}
theorem cv_hasn {x : Int32} (hn : 575 ≤ n) (hx : x < 0) (k0 : Q (.inl (some (.int 0))) (n, sl, hc a f0)) : mi_W d 82 0 (mi_en 2 [.ref 3, .int x]) [] (n, sl, hc a f0) Q := by
  refine b_82_0 _ _ _ ?_ ?_
  · intro z0
    refine b_82_16 _ _ _ ?_
    refine b_82_17 _ _ _ (by first | assumption | (exact mL_get (by decide)) | (rw [mL_len]; decide) | (simp only [mL_set]; exact mL_get (by decide)) | (simp only [mL_set, mL_len]; decide) | (exact va_eq) | (exact (va_ne (by omega)).trans (by assumption)) | (exact (va_ne (by omega)).trans va_eq) | (exact (va_ne (by omega)).trans ((va_ne (by omega)).trans (by assumption))) | (exact (va_ne (by omega)).trans ((va_ne (by omega)).trans ((va_ne (by omega)).trans (by assumption)))) | rfl | (exact Or.inl rfl) | (exact Or.inr rfl) | omega | (exact Nat.le_of_ble_eq_true rfl) | decide | (exact ⟨by decide, rfl, by decide⟩)) ?_
    exact k0
  · intro z0
    exact absurd hx z0
theorem ca_137z (hn : 575 ≤ n) (hLv : cLv f0 gl) (hl : l < 104) (hs : cSt a (80 + 4 * l) S) (hT : cTb a N BN tb bd) (hN : S.at < N) (h5 : a.AI 11 54 5 l = -1) (K1 : ∀ a', cRem a' l N tb bd S [] → cStp a' l (4, (tb S.at).2.2.2.2.1, 0, false) → cFd l a a' → Q (.inl (some (.int 1))) (n, sl, hc a' f0)) : mi_W (e + 105) 124 137 [some (.ref 54), some (.int (Int32.ofNat l)), some (.ref (80 + 4 * l)), some (.int l4)] [] (n, sl, hc a f0) Q := by
  have ho1 := lv_o ⟨l, hl⟩
  dsimp only at ho1
  have ho15 := ho1.1
  have hN8 := hT.1.1.2
  have hix := ix_of (w := l) (m := 104) (by omega) (by omega)
  have hat : a.I 9 (80 + 4 * l) 0 = Int32.ofNat S.at := hs.2.1.1
  have hixa : mi_ix (a.I 9 (80 + 4 * l) 0) 800 S.at := by
    rw [hat]
    exact ix_of (by omega) (by omega)
  have hrow := (hT.1.2.1 S.at (Nat.zero_le _) hN).1
  have hv : a.AL 2 3 9 S.at = (tb S.at).2.2.2.2.1 := hrow.2.1
  refine b_124_137 _ _ _ _ _ _ (by first | (exact hc_o (by first | assumption | (exact ⟨by decide, rfl⟩))) | assumption | (exact (hc_far (by omega)).trans (by assumption))) (by omega) (by first | rfl | assumption) (by first | (exact hc_ai (by omega) (by first | assumption | (exact (ht9 (by assumption)).2.1) | (exact (ht9 (by assumption)).2.2.1) | (exact (ht9 (by assumption)).2.2.2) | rfl) (by decide)) | assumption | (exact (hc_far (by omega)).trans (by assumption))) (Or.inl (by omega)) (by first | assumption | (exact ix_of (by omega) (by omega)) | (exact ⟨by decide, rfl, by decide⟩)) ?_ ?_
  · intro z137
    refine b_124_149 _ _ _ _ _ _ _ _ _ (by first | (exact hc_o (by first | assumption | (exact ⟨by decide, rfl⟩))) | assumption | (exact (hc_far (by omega)).trans (by assumption))) (by omega) (by first | rfl | assumption) (by first | (exact hc_ai (by omega) (by first | assumption | (exact (ht9 (by assumption)).2.1) | (exact (ht9 (by assumption)).2.2.1) | (exact (ht9 (by assumption)).2.2.2) | rfl) (by decide)) | assumption | (exact (hc_far (by omega)).trans (by assumption))) (by omega) (by first | assumption | (exact ix_of (by omega) (by omega)) | (exact ⟨by decide, rfl, by decide⟩)) (by first | (exact (congrFun (hw_AI (by omega) (by first | assumption | (exact (ht9 (by assumption)).2.1) | (exact (ht9 (by assumption)).2.2.1) | (exact (ht9 (by assumption)).2.2.2) | rfl) (by decide)) _).trans (hc_o (by first | assumption | (exact ⟨by decide, rfl⟩)))) | assumption | (exact (hc_far (by omega)).trans (by assumption))) (by omega) (by first | rfl | assumption) (by first | (exact (congrFun (hw_AI (by omega) (by first | assumption | (exact (ht9 (by assumption)).2.1) | (exact (ht9 (by assumption)).2.2.1) | (exact (ht9 (by assumption)).2.2.2) | rfl) (by decide)) _).trans (hc_o (by first | assumption | (exact ⟨by decide, rfl⟩)))) | assumption | (exact (hc_far (by omega)).trans (by assumption))) (by omega) (by first | rfl | assumption) (by first | (exact (congrFun (hw_AI (by omega) (by first | assumption | (exact (ht9 (by assumption)).2.1) | (exact (ht9 (by assumption)).2.2.1) | (exact (ht9 (by assumption)).2.2.2) | rfl) (by decide)) _).trans (hc_o (by first | assumption | (exact ⟨by decide, rfl⟩)))) | assumption | (exact (hc_far (by omega)).trans (by assumption))) (by omega) (by first | rfl | assumption) (by first | (exact (congrFun (hw_AI (by omega) (by first | assumption | (exact (ht9 (by assumption)).2.1) | (exact (ht9 (by assumption)).2.2.1) | (exact (ht9 (by assumption)).2.2.2) | rfl) (by decide)) _).trans (hc_al (by omega) (by first | assumption | (exact (ht9 (by assumption)).2.1) | (exact (ht9 (by assumption)).2.2.1) | (exact (ht9 (by assumption)).2.2.2) | rfl))) | assumption | (exact (hc_far (by omega)).trans (by assumption))) (by omega) (by first | assumption | (exact ix_of (by omega) (by omega)) | (exact ⟨by decide, rfl, by decide⟩)) (by first | (exact (congrFun (hw_AI (by omega) (by first | assumption | (exact (ht9 (by assumption)).2.1) | (exact (ht9 (by assumption)).2.2.1) | (exact (ht9 (by assumption)).2.2.2) | rfl) (by decide)) _).trans (hc_o (by first | assumption | (exact ⟨by decide, rfl⟩)))) | assumption | (exact (hc_far (by omega)).trans (by assumption))) (by omega) ?_
    refine hw_W (hw_AI (by omega) (by first | assumption | (exact (ht9 (by assumption)).2.1) | (exact (ht9 (by assumption)).2.2.1) | (exact (ht9 (by assumption)).2.2.2) | rfl) (by decide)) ?_
    rw [show (a.sAI 11 54 5 (upd (a.AI 11 54 5) l (-2))).AL 2 3 9 S.at = (tb S.at).2.2.2.2.1 from hv]
    refine ca_set (kd := Int32.ofNat 4) (nd := mz_lk 0) hn hl ?_
    refine b_124_176 _ _ _ (by first | assumption | (exact mL_get (by decide)) | (rw [mL_len]; decide) | (simp only [mL_set]; exact mL_get (by decide)) | (simp only [mL_set, mL_len]; decide) | (exact va_eq) | (exact (va_ne (by omega)).trans (by assumption)) | (exact (va_ne (by omega)).trans va_eq) | (exact (va_ne (by omega)).trans ((va_ne (by omega)).trans (by assumption))) | (exact (va_ne (by omega)).trans ((va_ne (by omega)).trans ((va_ne (by omega)).trans (by assumption)))) | rfl | (exact Or.inl rfl) | (exact Or.inr rfl) | omega | (exact Nat.le_of_ble_eq_true rfl) | decide | (exact ⟨by decide, rfl, by decide⟩)) ?_
    refine K1 _ (Or.inr (Or.inl ⟨?_, rfl⟩)) (cStp_set (by decide) (fun _ => rfl) (fun h => absurd h (by decide))) cFd.re.sAI.sAI.sAL.sAI
    rw [set_5, AI_at, upd_at]
  · intro z137
    exact absurd h5 z137
theorem ca_fl (hn : 575 ≤ n) (hLv : cLv f0 gl) (hl : l < 104) (hS : mv_ok S) (hN : S.at < N) (h4 : (tb S.at).1 = 4) : ∀ (t m j i : Nat) (a : mh_A), i + t ≤ 8 → cSt a (80 + 4 * l) S → cTb a N BN tb bd → cEnc a l N tb bd t m j → (∀ a' s R', ma_wh tb bd S t m j = s :: R' → cRem a' l N tb bd S R' → cStp a' l s → cVal tb N s → cFd l a a' → Q (.inl (some (.int 1))) (n, sl, hc a' f0)) → mi_W (e + 105) 124 93 [some (.ref 54), some (.int (Int32.ofNat l)), some (.ref (80 + 4 * l)), some (.int (Int32.ofNat i))] [] (n, sl, hc a f0) Q := by
  have hix := ix_of (w := l) (m := 104) (by omega) (by omega)
  have fin : ∀ (t j : Nat) (a : mh_A) (l4 : Int32), cSt a (80 + 4 * l) S → cTb a N BN tb bd → a.AI 11 54 5 l = -1 → (∀ a' s R', ma_wh tb bd S t 0 j = s :: R' → cRem a' l N tb bd S R' → cStp a' l s → cVal tb N s → cFd l a a' → Q (.inl (some (.int 1))) (n, sl, hc a' f0)) → mi_W (e + 105) 124 137 [some (.ref 54), some (.int (Int32.ofNat l)), some (.ref (80 + 4 * l)), some (.int l4)] [] (n, sl, hc a f0) Q := by
    intro t j a l4 hs hT h5 K1
    refine ca_137z hn hLv hl hs hT hN h5 (fun a' r' c' f' => K1 a' _ [] ?_ r' c' (Or.inl rfl) f')
    unfold ma_wh
    cases t <;> rfl
  intro t
  induction t with
  | zero =>
    intro m j i a hi hs hT hE K1
    obtain ⟨⟨ht, ⟨pm, hls⟩, hnl⟩, e5, e6, hj⟩ := hE
    have hm0 : m = 0 := hls
    subst hm0
    refine b_124_93 _ _ _ ?_ ?_
    · intro z93
      exact fin 0 j a _ hs hT e5 K1
    · intro z93
      refine b_124_99 _ _ _ _ _ _ (by first | (exact hc_o (by first | assumption | (exact ⟨by decide, rfl⟩))) | assumption | (exact (hc_far (by omega)).trans (by assumption))) (by omega) (by first | rfl | assumption) (by first | (exact hc_o (by first | assumption | (exact ⟨by decide, rfl⟩))) | assumption | (exact (hc_far (by omega)).trans (by assumption))) (by omega) (by first | rfl | assumption) (by first | (exact hc_ai (by omega) (by first | assumption | (exact (ht9 (by assumption)).2.1) | (exact (ht9 (by assumption)).2.2.1) | (exact (ht9 (by assumption)).2.2.2) | rfl) (by decide)) | assumption | (exact (hc_far (by omega)).trans (by assumption))) (Or.inl (by omega)) (by first | assumption | (exact ix_of (by omega) (by omega)) | (exact ⟨by decide, rfl, by decide⟩)) (by first | (exact hc_o (by first | assumption | (exact ⟨by decide, rfl⟩))) | assumption | (exact (hc_far (by omega)).trans (by assumption))) (by omega) ?_
      rw [e5]
      refine cv_hasn hn (by decide) ?_
      refine b_124_112 _ _ _ ?_ ?_
      · intro z112
        exact fin 0 j a _ hs hT e5 K1
      · intro z112
        first | (exact absurd z112 (by decide)) | (exact absurd (by decide) z112) | (exact absurd rfl z112) | (exact absurd z112 (of_nn (by omega))) | (exact absurd (of_np (by omega)) z112) | omega
  | succ t ih =>
    intro m j i a hi hs hT hE K1
    obtain ⟨⟨ht, ⟨pm, hls⟩, hnl⟩, e5, e6, hj⟩ := id hE
    by_cases hm0 : m = 0
    · subst hm0
      refine b_124_93 _ _ _ ?_ ?_
      · intro z93
        exact absurd ((i_le (a := 8) rfl rfl (by omega) (by omega)).mp z93) (by omega)
      · intro z93
        refine b_124_99 _ _ _ _ _ _ (by first | (exact hc_o (by first | assumption | (exact ⟨by decide, rfl⟩))) | assumption | (exact (hc_far (by omega)).trans (by assumption))) (by omega) (by first | rfl | assumption) (by first | (exact hc_o (by first | assumption | (exact ⟨by decide, rfl⟩))) | assumption | (exact (hc_far (by omega)).trans (by assumption))) (by omega) (by first | rfl | assumption) (by first | (exact hc_ai (by omega) (by first | assumption | (exact (ht9 (by assumption)).2.1) | (exact (ht9 (by assumption)).2.2.1) | (exact (ht9 (by assumption)).2.2.2) | rfl) (by decide)) | assumption | (exact (hc_far (by omega)).trans (by assumption))) (Or.inl (by omega)) (by first | assumption | (exact ix_of (by omega) (by omega)) | (exact ⟨by decide, rfl, by decide⟩)) (by first | (exact hc_o (by first | assumption | (exact ⟨by decide, rfl⟩))) | assumption | (exact (hc_far (by omega)).trans (by assumption))) (by omega) ?_
        rw [e5]
        refine cv_hasn hn (by decide) ?_
        refine b_124_112 _ _ _ ?_ ?_
        · intro z112
          exact fin (t + 1) j a _ hs hT e5 K1
        · intro z112
          first | (exact absurd z112 (by decide)) | (exact absurd (by decide) z112) | (exact absurd rfl z112) | (exact absurd z112 (of_nn (by omega))) | (exact absurd (of_np (by omega)) z112) | omega
    · have hls' : m = 0 ∨ _ := hls
      obtain ⟨hpm, hmN, hso, -⟩ := hls'.resolve_left hm0
      have hN8 := hT.1.1.2
      have ho := mz_so3 ⟨(tb m).1, mz_so33 hso (by decide)⟩ hso
      dsimp only at ho
      have hj' : j = 0 ∨ ((tb m).1 = 8 ∧ j ≤ ma_tt bd (tb m).2.2.2.2.2.2.2.2.1 (tb m).2.2.2.2.2.2.2.2.2) := hj.elim Or.inl (fun h => Or.inr h.2)
      have FF : ∀ (Q1 : (Option Value ⊕ Nat) → mi_H → Prop), (∀ a' s t' m' j', t' + 1 ≤ 9 → cEnc a' l N tb bd t' m' j' → ma_as tb bd (mv_E tb S S.tm S.tm 100) (t + 1) m j = s :: ma_as tb bd (mv_E tb S S.tm S.tm 100) t' m' j' → cStp a' l s → ¬ s.2.2.1 = 0 → mz_a tb N s.2.2.1 → cFd l a a' → Q1 (.inl (some (.int 1))) (n, sl, hc a' f0)) → (∀ a', cEnc a' l N tb bd t (tb m).2.2.2.2.2.2.2.1 0 → ma_as tb bd (mv_E tb S S.tm S.tm 100) (t + 1) m j = ma_as tb bd (mv_E tb S S.tm S.tm 100) t (tb m).2.2.2.2.2.2.2.1 0 → cFd l a a' → Q1 (.inl (some (.int 0))) (n, sl, hc a' f0)) → mi_W (e + 104) 127 0 (mi_en 5 [.ref 54, .int (Int32.ofNat l), .int (Int32.ofNat m)]) [] (n, sl, hc a f0) Q1 := by
        intro Q1 k1 k0
        rcases hcm : tb m with ⟨op, A, B, D, u, x, y, z, M, F⟩
        rw [hcm] at ho k0
        dsimp only at ho k0
        rcases ho with rfl | rfl | rfl
        · exact ca_ff7 hn hLv hl hs hT hS hm0 hls hnl (by omega) e5 e6 hj' hcm k1 k0
        · exact ca_ff8 hn hLv hl hs hT hS hm0 hls hnl (by omega) e5 e6 hj' hcm k1 k0
        · exact ca_ff9 hn hLv hl hs hT hS hm0 hls hnl (by omega) e5 e6 hj' hcm k1 k0
      refine b_124_93 _ _ _ ?_ ?_
      · intro z93
        exact absurd ((i_le (a := 8) rfl rfl (by omega) (by omega)).mp z93) (by omega)
      · intro z93
        refine b_124_99 _ _ _ _ _ _ (by first | (exact hc_o (by first | assumption | (exact ⟨by decide, rfl⟩))) | assumption | (exact (hc_far (by omega)).trans (by assumption))) (by omega) (by first | rfl | assumption) (by first | (exact hc_o (by first | assumption | (exact ⟨by decide, rfl⟩))) | assumption | (exact (hc_far (by omega)).trans (by assumption))) (by omega) (by first | rfl | assumption) (by first | (exact hc_ai (by omega) (by first | assumption | (exact (ht9 (by assumption)).2.1) | (exact (ht9 (by assumption)).2.2.1) | (exact (ht9 (by assumption)).2.2.2) | rfl) (by decide)) | assumption | (exact (hc_far (by omega)).trans (by assumption))) (Or.inl (by omega)) (by first | assumption | (exact ix_of (by omega) (by omega)) | (exact ⟨by decide, rfl, by decide⟩)) (by first | (exact hc_o (by first | assumption | (exact ⟨by decide, rfl⟩))) | assumption | (exact (hc_far (by omega)).trans (by assumption))) (by omega) ?_
        rw [e5, mz_lk0 hm0]
        refine cv_has hn hT.1.1.1 hN8 (by omega) (fun _ => ?_) (fun h => ?_)
        · refine b_124_112 _ _ _ ?_ ?_
          · intro z112
            first | (exact absurd z112 (by decide)) | (exact absurd (by decide) z112) | (exact absurd rfl z112) | (exact absurd z112 (of_nn (by omega))) | (exact absurd (of_np (by omega)) z112) | omega
          · intro z112
            refine b_124_115 _ _ _ _ _ _ (by first | (exact hc_o (by first | assumption | (exact ⟨by decide, rfl⟩))) | assumption | (exact (hc_far (by omega)).trans (by assumption))) (by omega) (by first | rfl | assumption) (by first | (exact hc_ai (by omega) (by first | assumption | (exact (ht9 (by assumption)).2.1) | (exact (ht9 (by assumption)).2.2.1) | (exact (ht9 (by assumption)).2.2.2) | rfl) (by decide)) | assumption | (exact (hc_far (by omega)).trans (by assumption))) (Or.inl (by omega)) (by first | assumption | (exact ix_of (by omega) (by omega)) | (exact ⟨by decide, rfl, by decide⟩)) (by first | (exact hc_o (by first | assumption | (exact ⟨by decide, rfl⟩))) | assumption | (exact (hc_far (by omega)).trans (by assumption))) (by omega) ?_
            rw [e5, mz_lk0 hm0]
            refine FF _ (fun a1 s t' m' j' ht' enc' eas' st' sv' sa' f' => ?_) (fun a1 enc' eas' f' => ?_)
            · refine b_124_126 _ _ _ ?_ ?_
              · intro z126
                first | (exact absurd z126 (by decide)) | (exact absurd (by decide) z126) | (exact absurd rfl z126) | (exact absurd z126 (of_nn (by omega))) | (exact absurd (of_np (by omega)) z126) | omega
              · intro z126
                refine b_124_129 _ _ _ ?_
                refine K1 a1 s (ma_wh tb bd S t' m' j') ?_ (Or.inr (Or.inr ⟨h4, t', m', j', enc', rfl⟩)) st' (Or.inr ⟨sv', sa'⟩) f'
                unfold ma_wh
                rw [eas']
                rfl
            · refine b_124_126 _ _ _ ?_ ?_
              · intro z126
                refine b_124_131 _ _ _ ?_
                rw [of_succ]
                refine ih _ 0 (i + 1) a1 (by omega) (hs.fd f') (hT.fd f') enc' (fun a2 s R' hR r2 st2 sv2 f2 => K1 a2 s R' ?_ r2 st2 sv2 (f'.trans f2))
                rw [← hR]
                unfold ma_wh
                rw [eas']
              · intro z126
                first | (exact absurd z126 (by decide)) | (exact absurd (by decide) z126) | (exact absurd rfl z126) | (exact absurd z126 (of_nn (by omega))) | (exact absurd (of_np (by omega)) z126) | omega
        · exact absurd hmN h
theorem ca_find (hn : 575 ≤ n) (hLv : cLv f0 gl) (hl : l < 104) (hs : cSt a (80 + 4 * l) S) (hT : cTb a N BN tb bd) (hS : mv_ok S) (hok : mz_ok tb N 100 0 S.at) (hNB : mo_NB tb bd S.at) (hR : cRem a l N tb bd S R) (K1 : ∀ a' s R', R = s :: R' → cRem a' l N tb bd S R' → cStp a' l s → cVal tb N s → cFd l a a' → Q (.inl (some (.int 1))) (n, sl, hc a' f0)) (K0 : ∀ a', R = [] → cFd l a a' → Q (.inl (some (.int 0))) (n, sl, hc a' f0)) : mi_W (e + 105) 124 0 (mi_en 4 [.ref 54, .int (Int32.ofNat l)]) [] (n, sl, hc a f0) Q := by
  have hlv := hLv.at
  have hgl := hLv.2
  have ho1 := lv_o ⟨l, hl⟩
  dsimp only at ho1
  have ho15 := ho1.1
  have hN8 := hT.1.1.2
  have hN : S.at < N := mz_u1 hok
  have hix := ix_of (w := l) (m := 104) (by omega) (by omega)
  have hat : a.I 9 (80 + 4 * l) 0 = Int32.ofNat S.at := hs.2.1.1
  have hixa : mi_ix (a.I 9 (80 + 4 * l) 0) 800 S.at := by
    rw [hat]
    exact ix_of (by omega) (by omega)
  have hrow := (hT.1.2.1 S.at (Nat.zero_le _) hN).1
  have spent : ∀ (a1 : mh_A) o4, cTb a1 N BN tb bd → a1.AI 11 54 5 l = -2 → R = [] → cFd l a a1 → mi_W (e + 105) 124 91 [some (.ref 54), some (.int (Int32.ofNat l)), some (.ref (80 + 4 * l)), o4] [] (n, sl, hc a1 f0) Q := by
    intro a1 o4 hT1 h5 hR0 f1
    refine b_124_91 _ _ _ ?_
    refine b_124_93 _ _ _ ?_ ?_
    · intro z93
      first | (exact absurd z93 (by decide)) | (exact absurd (by decide) z93) | (exact absurd rfl z93) | (exact absurd z93 (of_nn (by omega))) | (exact absurd (of_np (by omega)) z93) | omega
    · intro z93
      refine b_124_99 _ _ _ _ _ _ (by first | (exact hc_o (by first | assumption | (exact ⟨by decide, rfl⟩))) | assumption | (exact (hc_far (by omega)).trans (by assumption))) (by omega) (by first | rfl | assumption) (by first | (exact hc_o (by first | assumption | (exact ⟨by decide, rfl⟩))) | assumption | (exact (hc_far (by omega)).trans (by assumption))) (by omega) (by first | rfl | assumption) (by first | (exact hc_ai (by omega) (by first | assumption | (exact (ht9 (by assumption)).2.1) | (exact (ht9 (by assumption)).2.2.1) | (exact (ht9 (by assumption)).2.2.2) | rfl) (by decide)) | assumption | (exact (hc_far (by omega)).trans (by assumption))) (Or.inl (by omega)) (by first | assumption | (exact ix_of (by omega) (by omega)) | (exact ⟨by decide, rfl, by decide⟩)) (by first | (exact hc_o (by first | assumption | (exact ⟨by decide, rfl⟩))) | assumption | (exact (hc_far (by omega)).trans (by assumption))) (by omega) ?_
      rw [h5]
      refine cv_hasn hn (by decide) ?_
      refine b_124_112 _ _ _ ?_ ?_
      · intro z112
        refine b_124_137 _ _ _ _ _ _ (by first | (exact hc_o (by first | assumption | (exact ⟨by decide, rfl⟩))) | assumption | (exact (hc_far (by omega)).trans (by assumption))) (by omega) (by first | rfl | assumption) (by first | (exact hc_ai (by omega) (by first | assumption | (exact (ht9 (by assumption)).2.1) | (exact (ht9 (by assumption)).2.2.1) | (exact (ht9 (by assumption)).2.2.2) | rfl) (by decide)) | assumption | (exact (hc_far (by omega)).trans (by assumption))) (Or.inl (by omega)) (by first | assumption | (exact ix_of (by omega) (by omega)) | (exact ⟨by decide, rfl, by decide⟩)) ?_ ?_
        · intro z137
          exact absurd (h5.symm.trans z137) (by decide)
        · intro z137
          refine b_124_147 _ _ _ ?_
          exact K0 a1 hR0 f1
      · intro z112
        first | (exact absurd z112 (by decide)) | (exact absurd (by decide) z112) | (exact absurd rfl z112) | (exact absurd z112 (of_nn (by omega))) | (exact absurd (of_np (by omega)) z112) | omega
  rcases hR with ⟨h5, hR⟩ | ⟨h5, hR⟩ | ⟨h4, t, m, j, hE, hR⟩
  · unfold ma_sp at hR
    cases hrd : ma_rd tb S with
    | true =>
      rw [hrd, if_pos rfl] at hR
      refine b_124_0 _ _ _ _ _ _ _ _ _ _ (by first | (exact hc_o (by first | assumption | (exact ⟨by decide, rfl⟩))) | assumption | (exact (hc_far (by omega)).trans (by assumption))) (by omega) (by first | rfl | assumption) (by first | (exact hlv _) | assumption) (by omega) (by first | decide | assumption) (by first | assumption | (exact ix_of (by omega) (by omega)) | (exact ⟨by decide, rfl, by decide⟩)) (by first | (exact hgl _ (by omega)) | assumption) (by first | (exact hc_o (by first | assumption | (exact ⟨by decide, rfl⟩))) | assumption | (exact (hc_far (by omega)).trans (by assumption))) (by omega) (by first | rfl | assumption) (by first | (exact hc_ai (by omega) (by first | assumption | (exact (ht9 (by assumption)).2.1) | (exact (ht9 (by assumption)).2.2.1) | (exact (ht9 (by assumption)).2.2.2) | rfl) (by decide)) | assumption | (exact (hc_far (by omega)).trans (by assumption))) (Or.inl (by omega)) (by first | assumption | (exact ix_of (by omega) (by omega)) | (exact ⟨by decide, rfl, by decide⟩)) ?_ ?_
      · intro z0
        exact absurd h5 z0
      · intro z0
        refine b_124_18 _ _ _ (by first | (exact hc_o (by first | assumption | (exact ⟨by decide, rfl⟩))) | assumption | (exact (hc_far (by omega)).trans (by assumption))) (by omega) (by first | rfl | assumption) (by first | (exact hc_o (by first | assumption | (exact ⟨by decide, rfl⟩))) | assumption | (exact (hc_far (by omega)).trans (by assumption))) (by omega) ?_
        refine cm_ird (d := e + 102) hn hs hT hok ?_
        rw [hrd]
        refine b_124_26 _ _ _ ?_ ?_
        · intro z26
          first | (exact absurd z26 (by decide)) | (exact absurd (by decide) z26) | (exact absurd rfl z26) | (exact absurd z26 (of_nn (by omega))) | (exact absurd (of_np (by omega)) z26) | omega
        · intro z26
          refine b_124_29 _ _ _ _ _ _ (by first | (exact hc_o (by first | assumption | (exact ⟨by decide, rfl⟩))) | assumption | (exact (hc_far (by omega)).trans (by assumption))) (by omega) (by first | rfl | assumption) (by first | (exact hc_ai (by omega) (by first | assumption | (exact (ht9 (by assumption)).2.1) | (exact (ht9 (by assumption)).2.2.1) | (exact (ht9 (by assumption)).2.2.2) | rfl) (by decide)) | assumption | (exact (hc_far (by omega)).trans (by assumption))) (by omega) (by first | assumption | (exact ix_of (by omega) (by omega)) | (exact ⟨by decide, rfl, by decide⟩)) (by first | (exact (congrFun (hw_AI (by omega) (by first | assumption | (exact (ht9 (by assumption)).2.1) | (exact (ht9 (by assumption)).2.2.1) | (exact (ht9 (by assumption)).2.2.2) | rfl) (by decide)) _).trans (hc_o (by first | assumption | (exact ⟨by decide, rfl⟩)))) | assumption | (exact (hc_far (by omega)).trans (by assumption))) (by omega) ?_
          refine hw_W (hw_AI (by omega) (by first | assumption | (exact (ht9 (by assumption)).2.1) | (exact (ht9 (by assumption)).2.2.1) | (exact (ht9 (by assumption)).2.2.2) | rfl) (by decide)) ?_
          refine ca_set (kd := Int32.ofNat 0) (nd := mz_lk 0) hn hl ?_
          refine b_124_45 _ _ _ (by first | assumption | (exact mL_get (by decide)) | (rw [mL_len]; decide) | (simp only [mL_set]; exact mL_get (by decide)) | (simp only [mL_set, mL_len]; decide) | (exact va_eq) | (exact (va_ne (by omega)).trans (by assumption)) | (exact (va_ne (by omega)).trans va_eq) | (exact (va_ne (by omega)).trans ((va_ne (by omega)).trans (by assumption))) | (exact (va_ne (by omega)).trans ((va_ne (by omega)).trans ((va_ne (by omega)).trans (by assumption)))) | rfl | (exact Or.inl rfl) | (exact Or.inr rfl) | omega | (exact Nat.le_of_ble_eq_true rfl) | decide | (exact ⟨by decide, rfl, by decide⟩)) ?_
          refine K1 _ (0, 0, 0, false) [] hR (Or.inr (Or.inl ⟨?_, rfl⟩)) (cStp_set (by decide) (fun _ => rfl) (fun h => absurd h (by decide))) (Or.inl rfl) cFd.re.sAI.sAI.sAL.sAI
          rw [set_5, AI_at, upd_at]
    | false =>
      rw [hrd, if_neg (by decide)] at hR
      have hso := (mz_un (k := 99) hok).2.1
      have ho := mz_so0 ⟨(tb S.at).1, mz_so33 hso (by decide)⟩ hso
      dsimp only at ho
      have hkd : a.AI 2 3 0 S.at = Int32.ofNat (cz_k.getD (tb S.at).1 0) := hrow.1 0 (by decide) (by decide)
      by_cases h4 : (tb S.at).1 = 4
      · rw [if_pos h4] at hR
        have hx : a.AI 2 3 1 S.at = mz_lk (tb S.at).2.2.2.2.2.1 := by
          refine (hrow.1 1 (by decide) (by decide)).trans ?_
          unfold cz_f
          rw [h4]
          rfl
        have hkd5 : a.AI 2 3 0 S.at = 5 := by
          rw [hkd, h4]
          rfl
        have hls := (mz_un (k := 99) hok).2.2.2.2.1 (by rw [h4]; decide)
        have hnl := mo_NB_l hNB h4
        have fX : cFd l a ((a.sAI 11 54 5 (upd (a.AI 11 54 5) l (mz_lk (tb S.at).2.2.2.2.2.1))).sAI 11 54 6 (upd (a.AI 11 54 6) l 0)) := cFd.re.sAI.sAI
        have X5 : ((a.sAI 11 54 5 (upd (a.AI 11 54 5) l (mz_lk (tb S.at).2.2.2.2.2.1))).sAI 11 54 6 (upd (a.AI 11 54 6) l 0)).AI 11 54 5 l = mz_lk (tb S.at).2.2.2.2.2.1 := by
          show upd (a.AI 11 54 5) l (mz_lk (tb S.at).2.2.2.2.2.1) l = _
          rw [upd_at]
        have X6 : ((a.sAI 11 54 5 (upd (a.AI 11 54 5) l (mz_lk (tb S.at).2.2.2.2.2.1))).sAI 11 54 6 (upd (a.AI 11 54 6) l 0)).AI 11 54 6 l = Int32.ofNat 0 := by
          rw [AI_at, upd_at]
          rfl
        generalize hX : (a.sAI 11 54 5 (upd (a.AI 11 54 5) l (mz_lk (tb S.at).2.2.2.2.2.1))).sAI 11 54 6 (upd (a.AI 11 54 6) l 0) = X at *
        refine b_124_0 _ _ _ _ _ _ _ _ _ _ (by first | (exact hc_o (by first | assumption | (exact ⟨by decide, rfl⟩))) | assumption | (exact (hc_far (by omega)).trans (by assumption))) (by omega) (by first | rfl | assumption) (by first | (exact hlv _) | assumption) (by omega) (by first | decide | assumption) (by first | assumption | (exact ix_of (by omega) (by omega)) | (exact ⟨by decide, rfl, by decide⟩)) (by first | (exact hgl _ (by omega)) | assumption) (by first | (exact hc_o (by first | assumption | (exact ⟨by decide, rfl⟩))) | assumption | (exact (hc_far (by omega)).trans (by assumption))) (by omega) (by first | rfl | assumption) (by first | (exact hc_ai (by omega) (by first | assumption | (exact (ht9 (by assumption)).2.1) | (exact (ht9 (by assumption)).2.2.1) | (exact (ht9 (by assumption)).2.2.2) | rfl) (by decide)) | assumption | (exact (hc_far (by omega)).trans (by assumption))) (Or.inl (by omega)) (by first | assumption | (exact ix_of (by omega) (by omega)) | (exact ⟨by decide, rfl, by decide⟩)) ?_ ?_
        · intro z0
          exact absurd h5 z0
        · intro z0
          refine b_124_18 _ _ _ (by first | (exact hc_o (by first | assumption | (exact ⟨by decide, rfl⟩))) | assumption | (exact (hc_far (by omega)).trans (by assumption))) (by omega) (by first | rfl | assumption) (by first | (exact hc_o (by first | assumption | (exact ⟨by decide, rfl⟩))) | assumption | (exact (hc_far (by omega)).trans (by assumption))) (by omega) ?_
          refine cm_ird (d := e + 102) hn hs hT hok ?_
          rw [hrd]
          refine b_124_26 _ _ _ ?_ ?_
          · intro z26
            refine b_124_46 _ _ _ (by first | (exact hc_o (by first | assumption | (exact ⟨by decide, rfl⟩))) | assumption | (exact (hc_far (by omega)).trans (by assumption))) (by omega) (by first | rfl | assumption) (by first | (exact hc_o (by first | assumption | (exact ⟨by decide, rfl⟩))) | assumption | (exact (hc_far (by omega)).trans (by assumption))) (by omega) (by first | rfl | assumption) (by first | (exact hc_o (by first | assumption | (exact ⟨by decide, rfl⟩))) | assumption | (exact (hc_far (by omega)).trans (by assumption))) (by omega) (by first | rfl | assumption) (by first | (exact hc_o (by first | assumption | (exact ⟨by decide, rfl⟩))) | assumption | (exact (hc_far (by omega)).trans (by assumption))) (by omega) ?_
            rw [hat]
            refine ct_kind hn hT.1.1.1 hN8 hN hkd5 ?_
            refine b_124_62 _ _ _ ?_ ?_
            · intro z62
              first | (exact absurd z62 (by decide)) | (exact absurd (by decide) z62) | (exact absurd rfl z62) | (exact absurd z62 (of_nn (by omega))) | (exact absurd (of_np (by omega)) z62) | omega
            · intro z62
              refine b_124_66 _ _ _ _ _ _ (by first | (exact hc_o (by first | assumption | (exact ⟨by decide, rfl⟩))) | assumption | (exact (hc_far (by omega)).trans (by assumption))) (by omega) (by first | rfl | assumption) (by first | (exact hc_o (by first | assumption | (exact ⟨by decide, rfl⟩))) | assumption | (exact (hc_far (by omega)).trans (by assumption))) (by omega) (by first | rfl | assumption) (by first | (exact hc_o (by first | assumption | (exact ⟨by decide, rfl⟩))) | assumption | (exact (hc_far (by omega)).trans (by assumption))) (by omega) (by first | rfl | assumption) (by first | (exact hc_ai (by omega) (by first | assumption | (exact (ht9 (by assumption)).2.1) | (exact (ht9 (by assumption)).2.2.1) | (exact (ht9 (by assumption)).2.2.2) | rfl) (by decide)) | assumption | (exact (hc_far (by omega)).trans (by assumption))) (Or.inl (by omega)) (by first | assumption | (exact ix_of (by omega) (by omega)) | (exact ⟨by decide, rfl, by decide⟩)) ?_
              rw [hx]
              refine b_124_83 _ _ _ _ _ _ _ _ _ (by first | (exact hc_ai (by omega) (by first | assumption | (exact (ht9 (by assumption)).2.1) | (exact (ht9 (by assumption)).2.2.1) | (exact (ht9 (by assumption)).2.2.2) | rfl) (by decide)) | assumption | (exact (hc_far (by omega)).trans (by assumption))) (by omega) (by first | assumption | (exact ix_of (by omega) (by omega)) | (exact ⟨by decide, rfl, by decide⟩)) (by first | (exact (congrFun (hw_AI (by omega) (by first | assumption | (exact (ht9 (by assumption)).2.1) | (exact (ht9 (by assumption)).2.2.1) | (exact (ht9 (by assumption)).2.2.2) | rfl) (by decide)) _).trans (hc_o (by first | assumption | (exact ⟨by decide, rfl⟩)))) | assumption | (exact (hc_far (by omega)).trans (by assumption))) (by omega) (by first | rfl | assumption) (by first | (exact (congrFun (hw_AI (by omega) (by first | assumption | (exact (ht9 (by assumption)).2.1) | (exact (ht9 (by assumption)).2.2.1) | (exact (ht9 (by assumption)).2.2.2) | rfl) (by decide)) _).trans (hc_ai (by omega) (by first | assumption | (exact (ht9 (by assumption)).2.1) | (exact (ht9 (by assumption)).2.2.1) | (exact (ht9 (by assumption)).2.2.2) | rfl) (by decide))) | assumption | (exact (hc_far (by omega)).trans (by assumption))) (by omega) (by first | assumption | (exact ix_of (by omega) (by omega)) | (exact ⟨by decide, rfl, by decide⟩)) ?_
              refine hw_W (hw_2 (hw_AI (by omega) (by first | assumption | (exact (ht9 (by assumption)).2.1) | (exact (ht9 (by assumption)).2.2.1) | (exact (ht9 (by assumption)).2.2.2) | rfl) (by decide)) (hw_AI (by omega) (by first | assumption | (exact (ht9 (by assumption)).2.1) | (exact (ht9 (by assumption)).2.2.1) | (exact (ht9 (by assumption)).2.2.2) | rfl) (by decide))) ?_
              rw [show (a.sAI 11 54 5 (upd (a.AI 11 54 5) l (mz_lk (tb S.at).2.2.2.2.2.1))).AI 11 54 6 = a.AI 11 54 6 from rfl, hX]
              refine b_124_91 _ _ _ ?_
              exact ca_fl hn hLv hl hS hN h4 8 _ 0 0 X (by omega) (hs.fd fX) (hT.fd fX) ⟨⟨by omega, ⟨_, hls⟩, hnl⟩, X5, X6, Or.inl rfl⟩ (fun a' s R' hR' r' c' v' f' => K1 a' s R' (hR.trans hR') r' c' v' (fX.trans f'))
          · intro z26
            first | (exact absurd z26 (by decide)) | (exact absurd (by decide) z26) | (exact absurd rfl z26) | (exact absurd z26 (of_nn (by omega))) | (exact absurd (of_np (by omega)) z26) | omega
      · rw [if_neg h4] at hR
        have hkn : ¬ Int32.ofNat (cz_k.getD (tb S.at).1 0) = 5 := by
          rcases ho with h | h | h | h | h | h | h <;> first | exact absurd h h4 | (rw [h]; decide)
        have fX : cFd l a ((a.sAI 11 54 5 (upd (a.AI 11 54 5) l (-2))).sAI 11 54 6 (upd (a.AI 11 54 6) l 0)) := cFd.re.sAI.sAI
        have X5 : ((a.sAI 11 54 5 (upd (a.AI 11 54 5) l (-2))).sAI 11 54 6 (upd (a.AI 11 54 6) l 0)).AI 11 54 5 l = -2 := by
          show upd (a.AI 11 54 5) l (-2) l = _
          rw [upd_at]
        generalize hX : (a.sAI 11 54 5 (upd (a.AI 11 54 5) l (-2))).sAI 11 54 6 (upd (a.AI 11 54 6) l 0) = X at *
        refine b_124_0 _ _ _ _ _ _ _ _ _ _ (by first | (exact hc_o (by first | assumption | (exact ⟨by decide, rfl⟩))) | assumption | (exact (hc_far (by omega)).trans (by assumption))) (by omega) (by first | rfl | assumption) (by first | (exact hlv _) | assumption) (by omega) (by first | decide | assumption) (by first | assumption | (exact ix_of (by omega) (by omega)) | (exact ⟨by decide, rfl, by decide⟩)) (by first | (exact hgl _ (by omega)) | assumption) (by first | (exact hc_o (by first | assumption | (exact ⟨by decide, rfl⟩))) | assumption | (exact (hc_far (by omega)).trans (by assumption))) (by omega) (by first | rfl | assumption) (by first | (exact hc_ai (by omega) (by first | assumption | (exact (ht9 (by assumption)).2.1) | (exact (ht9 (by assumption)).2.2.1) | (exact (ht9 (by assumption)).2.2.2) | rfl) (by decide)) | assumption | (exact (hc_far (by omega)).trans (by assumption))) (Or.inl (by omega)) (by first | assumption | (exact ix_of (by omega) (by omega)) | (exact ⟨by decide, rfl, by decide⟩)) ?_ ?_
        · intro z0
          exact absurd h5 z0
        · intro z0
          refine b_124_18 _ _ _ (by first | (exact hc_o (by first | assumption | (exact ⟨by decide, rfl⟩))) | assumption | (exact (hc_far (by omega)).trans (by assumption))) (by omega) (by first | rfl | assumption) (by first | (exact hc_o (by first | assumption | (exact ⟨by decide, rfl⟩))) | assumption | (exact (hc_far (by omega)).trans (by assumption))) (by omega) ?_
          refine cm_ird (d := e + 102) hn hs hT hok ?_
          rw [hrd]
          refine b_124_26 _ _ _ ?_ ?_
          · intro z26
            refine b_124_46 _ _ _ (by first | (exact hc_o (by first | assumption | (exact ⟨by decide, rfl⟩))) | assumption | (exact (hc_far (by omega)).trans (by assumption))) (by omega) (by first | rfl | assumption) (by first | (exact hc_o (by first | assumption | (exact ⟨by decide, rfl⟩))) | assumption | (exact (hc_far (by omega)).trans (by assumption))) (by omega) (by first | rfl | assumption) (by first | (exact hc_o (by first | assumption | (exact ⟨by decide, rfl⟩))) | assumption | (exact (hc_far (by omega)).trans (by assumption))) (by omega) (by first | rfl | assumption) (by first | (exact hc_o (by first | assumption | (exact ⟨by decide, rfl⟩))) | assumption | (exact (hc_far (by omega)).trans (by assumption))) (by omega) ?_
            rw [hat]
            refine ct_kind hn hT.1.1.1 hN8 hN hkd ?_
            refine b_124_62 _ _ _ ?_ ?_
            · intro z62
              refine b_124_81 _ _ _ ?_
              refine b_124_83 _ _ _ _ _ _ _ _ _ (by first | (exact hc_ai (by omega) (by first | assumption | (exact (ht9 (by assumption)).2.1) | (exact (ht9 (by assumption)).2.2.1) | (exact (ht9 (by assumption)).2.2.2) | rfl) (by decide)) | assumption | (exact (hc_far (by omega)).trans (by assumption))) (by omega) (by first | assumption | (exact ix_of (by omega) (by omega)) | (exact ⟨by decide, rfl, by decide⟩)) (by first | (exact (congrFun (hw_AI (by omega) (by first | assumption | (exact (ht9 (by assumption)).2.1) | (exact (ht9 (by assumption)).2.2.1) | (exact (ht9 (by assumption)).2.2.2) | rfl) (by decide)) _).trans (hc_o (by first | assumption | (exact ⟨by decide, rfl⟩)))) | assumption | (exact (hc_far (by omega)).trans (by assumption))) (by omega) (by first | rfl | assumption) (by first | (exact (congrFun (hw_AI (by omega) (by first | assumption | (exact (ht9 (by assumption)).2.1) | (exact (ht9 (by assumption)).2.2.1) | (exact (ht9 (by assumption)).2.2.2) | rfl) (by decide)) _).trans (hc_ai (by omega) (by first | assumption | (exact (ht9 (by assumption)).2.1) | (exact (ht9 (by assumption)).2.2.1) | (exact (ht9 (by assumption)).2.2.2) | rfl) (by decide))) | assumption | (exact (hc_far (by omega)).trans (by assumption))) (by omega) (by first | assumption | (exact ix_of (by omega) (by omega)) | (exact ⟨by decide, rfl, by decide⟩)) ?_
              refine hw_W (hw_2 (hw_AI (by omega) (by first | assumption | (exact (ht9 (by assumption)).2.1) | (exact (ht9 (by assumption)).2.2.1) | (exact (ht9 (by assumption)).2.2.2) | rfl) (by decide)) (hw_AI (by omega) (by first | assumption | (exact (ht9 (by assumption)).2.1) | (exact (ht9 (by assumption)).2.2.1) | (exact (ht9 (by assumption)).2.2.2) | rfl) (by decide))) ?_
              rw [show (a.sAI 11 54 5 (upd (a.AI 11 54 5) l (-2))).AI 11 54 6 = a.AI 11 54 6 from rfl, hX]
              exact spent X _ (hT.fd fX) X5 hR fX
            · intro z62
              exact absurd (Classical.not_not.mp z62) hkn
          · intro z26
            first | (exact absurd z26 (by decide)) | (exact absurd (by decide) z26) | (exact absurd rfl z26) | (exact absurd z26 (of_nn (by omega))) | (exact absurd (of_np (by omega)) z26) | omega
  · skip
    refine b_124_0 _ _ _ _ _ _ _ _ _ _ (by first | (exact hc_o (by first | assumption | (exact ⟨by decide, rfl⟩))) | assumption | (exact (hc_far (by omega)).trans (by assumption))) (by omega) (by first | rfl | assumption) (by first | (exact hlv _) | assumption) (by omega) (by first | decide | assumption) (by first | assumption | (exact ix_of (by omega) (by omega)) | (exact ⟨by decide, rfl, by decide⟩)) (by first | (exact hgl _ (by omega)) | assumption) (by first | (exact hc_o (by first | assumption | (exact ⟨by decide, rfl⟩))) | assumption | (exact (hc_far (by omega)).trans (by assumption))) (by omega) (by first | rfl | assumption) (by first | (exact hc_ai (by omega) (by first | assumption | (exact (ht9 (by assumption)).2.1) | (exact (ht9 (by assumption)).2.2.1) | (exact (ht9 (by assumption)).2.2.2) | rfl) (by decide)) | assumption | (exact (hc_far (by omega)).trans (by assumption))) (Or.inl (by omega)) (by first | assumption | (exact ix_of (by omega) (by omega)) | (exact ⟨by decide, rfl, by decide⟩)) ?_ ?_
    · intro z0
      exact spent a _ hT h5 hR cFd.re
    · intro z0
      exact absurd (h5.symm.trans (Classical.not_not.mp z0)) (by decide)
  · have hne : ¬ a.AI 11 54 5 l = -3 := by
      rw [hE.2.1]
      unfold mz_lk
      split
      · decide
      · rename_i hm0
        have hls := hE.1.2.1
        have hm8 : m ≤ 800 := by
          obtain ⟨pm, hls⟩ := hls
          cases t with
          | zero => exact absurd hls hm0
          | succ t =>
            have hls' : m = 0 ∨ _ := hls
            have := (hls'.resolve_left hm0).2.1
            omega
        exact fun h => absurd (show Int32.ofNat m < 0 by rw [h]; decide) (of_nn (by omega))
    refine b_124_0 _ _ _ _ _ _ _ _ _ _ (by first | (exact hc_o (by first | assumption | (exact ⟨by decide, rfl⟩))) | assumption | (exact (hc_far (by omega)).trans (by assumption))) (by omega) (by first | rfl | assumption) (by first | (exact hlv _) | assumption) (by omega) (by first | decide | assumption) (by first | assumption | (exact ix_of (by omega) (by omega)) | (exact ⟨by decide, rfl, by decide⟩)) (by first | (exact hgl _ (by omega)) | assumption) (by first | (exact hc_o (by first | assumption | (exact ⟨by decide, rfl⟩))) | assumption | (exact (hc_far (by omega)).trans (by assumption))) (by omega) (by first | rfl | assumption) (by first | (exact hc_ai (by omega) (by first | assumption | (exact (ht9 (by assumption)).2.1) | (exact (ht9 (by assumption)).2.2.1) | (exact (ht9 (by assumption)).2.2.2) | rfl) (by decide)) | assumption | (exact (hc_far (by omega)).trans (by assumption))) (Or.inl (by omega)) (by first | assumption | (exact ix_of (by omega) (by omega)) | (exact ⟨by decide, rfl, by decide⟩)) ?_ ?_
    · intro z0
      refine b_124_91 _ _ _ ?_
      exact ca_fl hn hLv hl hS hN h4 t m j 0 a (by have := hE.1.1; omega) hs hT hE (fun a' s R' hR' r' c' v' f' => K1 a' s R' (hR.trans hR') r' c' v' f')
    · intro z0
      exact absurd (Classical.not_not.mp z0) hne
end
