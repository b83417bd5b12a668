/-! the first object: a transaction whole -/
section
variable {d e n sl N : Nat} {a a1 a2 : mh_A} {f0 : Nat → mi_C} {Q : (Option Value ⊕ Nat) → mi_H → Prop} {q ip many BN : Nat} {tb : Nat → ms_N} {u v : Int64} {S : mv_S} {bd : Nat → Int64 × Int64} {ins : Nat → mv_I} {w : Nat → Int64} {o6 : Option Value}
theorem cm_34z {p qq : Nat} {v w : Int64} (hn : 575 ≤ n) (hpo : mh_o p 7) (K : mi_W d 74 44 [some (.ref p), some (.ref qq), some (.ref ip), some (.long v), none, some (.long w), none, o6] [] (n, sl, hc (a.sI 7 p 6 0) f0) Q) : mi_W d 74 34 [some (.ref p), some (.ref qq), some (.ref ip), some (.long v), none, some (.long w), none, o6] [.int 0, .ref p] (n, sl, hc a f0) Q := by
  have hp5 := hpo.1
  refine b_74_34 _ _ _ (by first | (exact hc_o (by first | assumption | (exact ⟨by decide, rfl⟩))) | assumption | (exact (hc_far (by omega)).trans (by assumption))) (by omega) (Nat.le_of_ble_eq_true rfl) (by first | (exact (congrFun (hw_I (by first | assumption | (exact ⟨by decide, rfl⟩)) (by decide)) _).trans (hc_o (by first | assumption | (exact ⟨by decide, rfl⟩)))) | assumption | (exact (hc_far (by omega)).trans (by assumption))) (by omega) (by first | rfl | assumption) ?_ ?_
  · intro z34
    exact absurd I_at z34
  · intro z34
    refine hw_W (hw_I (by first | assumption | (exact ⟨by decide, rfl⟩)) (by decide)) ?_
    exact K
theorem mv_run_ok {wal : Bool} {Z : mv_Z} (h1 : ¬ v < u) (h2 : ¬ v < Z.S.tm) : mv_run tb bd wal many ins u v Z = mv_r2 tb bd wal many ins (mv_lo u Z.S.tm) v (Z.ti (mv_lo u Z.S.tm)) := by
  unfold mv_run mv_r2
  rw [if_neg h1, if_neg h2]
  generalize mv_red tb (mv_lo u Z.S.tm) v 148 false (Z.ti (mv_lo u Z.S.tm)) = s
  cases s <;> rfl
theorem cEn_Mg {p : Nat} {Z : mv_Z} {g : Nat → Int64} {lo hi : Int64} (h : cM0 a p q N tb Z) (hl : ∀ j, j < 32 → g j = Z.lf j) : cM ((cEn a p q lo hi).sAL 5 32 1 g) p q N tb lo hi (Z.ti lo) := by
  obtain ⟨h1, h3, hs, he, hw⟩ := h
  refine ⟨h1, ⟨?_, ?_, ?_, ?_, ?_, ?_⟩, h3, ⟨hs.1, hs.2.1, ?_, hs.2.2.2⟩, he, fun _ j hj => ?_⟩
  · show (mh_v (mh_v a.R 7 p q) 10 (p + 12) q) 7 p = q
    simp [mh_v]
  · show (mh_v (mh_v a.R 7 p q) 10 (p + 12) q) 10 (p + 12) = q
    simp [mh_v]
  · show (mh_u (mh_u a.L 7 p 4 lo) 7 p 5 hi) 7 p 4 = lo
    simp [mh_u]
  · show (mh_u (mh_u a.L 7 p 4 lo) 7 p 5 hi) 7 p 5 = hi
    simp [mh_u]
  · show (mh_u (α := Int64) (mh_u _ 10 (p + 12) 2 lo) 10 (p + 12) 3 hi) 10 (p + 12) 2 = lo
    simp [mh_u]
  · show (mh_u (α := Int64) (mh_u _ 10 (p + 12) 2 lo) 10 (p + 12) 3 hi) 10 (p + 12) 3 = hi
    simp [mh_u]
  · show (mh_u (α := Int64) _ 9 q 1 lo) 9 q 1 = lo
    simp [mh_u]
  · rw [AL_at]
    exact hl j hj
theorem cm_run41 (hn : 575 ≤ n) (hs : cSt a q S) (hT : (a.I 2 3 11 = Int32.ofNat N ∧ N ≤ 800) ∧ crg 0 N a tb ∧ mv_tok tb) (hw0 : ∀ j, j < 32 → a.AL 5 32 0 j = w j) (hS : mv_ok S) (hok : mz_ok tb N 100 0 S.at) (hb : cBd a BN bd tb) (hbd : ∀ j, mv_in (bd j).1 ∧ mv_in (bd j).2) (hmany : many ≤ 16) (hm : a.I 6 35 5 = Int32.ofNat many) (hI : ∀ j, j < many → cIn a 35 j (ins j)) (Ke : ∀ x a', mv_tx tb bd many ins u v S w = .error x → 1 ≤ x → x ≤ 7 → cMe 41 q a a' → a'.I 8 42 6 = 0 → a'.I 8 42 7 = 0 → Q (.inl (some (.int (Int32.ofNat x)))) (n, sl, hc a' f0)) (Kok : ∀ a' Z' w', mv_tx tb bd many ins u v S w = .ok (Z', w') → cMw 41 q a a' → cSt a' q Z'.S → cEv a' 42 Z' → (∀ j, j < 32 → a'.AL 5 32 0 j = w' j) → mv_ok Z'.S → mz_ok tb N 100 0 Z'.S.at → Q (.inl (some (.int 0))) (n, sl, hc a' f0)) : mi_W (e + 113) 74 0 (mi_en 8 [.ref 41, .ref q, .ref 35, .long u, .long v]) [] (n, sl, hc a f0) Q := by
  have hpo : mh_o 41 7 := ⟨by decide, rfl⟩
  have hipo : mh_o 35 6 := ⟨by decide, rfl⟩
  have heo : mh_o (41 + 1) 8 := ⟨by decide, rfl⟩
  have hqo : mh_o q 9 := hs.1
  have hq5 := hqo.1
  have htm : a.L 9 q 1 = S.tm := hs.2.2.1
  have fin : ∀ a1 lo hi s l6, mv_run tb bd true many ins u v (mv_z0 S w) = s → cMe 41 q a a1 → cOut a1 41 q N tb lo hi s → mi_W (e + 113) 74 133 [some (.ref 41), some (.ref q), some (.ref 35), some (.long u), none, some (.long v), none, some (.int l6)] [] (n, sl, hc a1 f0) Q := by
    intro a1 lo hi s l6 hr f1 hs'
    have hlx : ∀ x, s = .error x → 1 ≤ x ∧ x ≤ 7 := fun x hx => by
      rcases hs' with ⟨-, -, Z', hz, -⟩ | ⟨y, hy, -, h1, h2⟩
      · rw [hx] at hz
        cases hz
      · rw [hx] at hy
        cases hy
        exact ⟨h1, h2⟩
    refine cm_t41 (e := e + 112) hn hs' (fun Z' hz => ?_) (fun x a2 hx f2 w1 w2 => ?_) (fun Z' g hh w' hz hset hM hw' => ?_)
    · obtain ⟨k', hj, -⟩ := mv_run_J hT.2.2 hbd hS hok (Nat.le_refl 100) (hr.trans hz)
      exact fun i hi => ⟨(hj.2.1 i hi).2.1, (hj.2.1 i hi).2.2.1⟩
    · have hx2 : mv_tx tb bd many ins u v S w = .error x ∧ 1 ≤ x ∧ x ≤ 7 := by
        unfold mv_tx
        rw [hr]
        rcases hx with hx | ⟨rfl, Z', hz, hset⟩
        · rw [hx]
          exact ⟨rfl, hlx x hx⟩
        · rw [hz]
          dsimp only
          rw [hset]
          exact ⟨rfl, by decide, by decide⟩
      exact Ke x a2 hx2.1 hx2.2.1 hx2.2.2 (f1.trans (cMe.of f2)) w1 w2
    · obtain ⟨k', hj, -⟩ := mv_run_J hT.2.2 hbd hS hok (Nat.le_refl 100) (hr.trans hz)
      have hx2 : mv_tx tb bd many ins u v S w = .ok (Z', w') := by
        unfold mv_tx
        rw [hr, hz]
        dsimp only
        rw [hset]
      exact Kok _ Z' w' hx2 f1.mw.sAL.sAL hM.2.2.2.1 hM.2.2.2.2.1 (fun j hj => by rw [AL_at]; exact hw' j hj) hj.1 (mz_ok_le hj.2.2.2.1 hj.2.2.1)
  have fc : cMe 41 q a ((a.sI 8 (41 + 1) 6 0).sI 8 (41 + 1) 7 0) := cMe.of ((cMf.re.sI (Or.inr (Or.inl ⟨rfl, rfl⟩))).sI (Or.inr (Or.inl ⟨rfl, rfl⟩)))
  refine b_74_0 _ _ _ (by first | (exact hc_o (by first | assumption | (exact ⟨by decide, rfl⟩))) | assumption | (exact (hc_far (by omega)).trans (by assumption))) (by omega) (by first | rfl | assumption) (by first | (exact hc_o (by first | assumption | (exact ⟨by decide, rfl⟩))) | assumption | (exact (hc_far (by omega)).trans (by assumption))) (by omega) ?_
  refine ce_clear (p := 41) hn (by decide) ?_
  refine b_74_7 _ _ _ ?_ ?_
  · intro z7
    refine b_74_19 _ _ _ (by first | (exact hc_o (by first | assumption | (exact ⟨by decide, rfl⟩))) | assumption | (exact (hc_far (by omega)).trans (by assumption))) (by omega) (by first | rfl | assumption) ?_ ?_
    · intro z19
      refine b_74_33 _ _ _ ?_
      refine cm_34z hn hpo ?_
      have e2 : (((a.sI 8 (41 + 1) 6 0).sI 8 (41 + 1) 7 0).sI 7 41 6 0).L 9 q 1 = S.tm := htm
      have hr := mv_run_ok (tb := tb) (bd := bd) (many := many) (ins := ins) (wal := true) (Z := mv_z0 S w) (lg_ge.mp z7) (fun h => lg_ge.mp z19 (by show v < a.L 9 q 1; rw [htm]; exact h))
      have hm0 : cM0 (((a.sI 8 (41 + 1) 6 0).sI 8 (41 + 1) 7 0).sI 7 41 6 0) 41 q N tb (mv_z0 S w) := ⟨⟨hpo, heo, ⟨by decide, rfl⟩, by decide⟩, ⟨hT.1, hT.2.1, hT.2.2⟩, hs, ⟨⟨rfl, Nat.zero_le _, fun i hi => absurd hi (Nat.not_lt_zero i)⟩, ⟨rfl, Nat.zero_le _, fun i hi => absurd hi (Nat.not_lt_zero i)⟩⟩, fun _ => hw0⟩
      have f2 := fc.trans (cMe.of (cMf.re.sI (p := 41) (q := q) (c := 7) (r := 41) (k := 6) (v := 0) (a := ((a.sI 8 (41 + 1) 6 0).sI 8 (41 + 1) 7 0)) (Or.inr (Or.inr (Or.inr ⟨rfl, rfl, rfl⟩)))))
      have hel2 : (((a.sI 8 (41 + 1) 6 0).sI 8 (41 + 1) 7 0).sI 7 41 6 0).I 7 41 6 = 0 := I_at
      generalize ((a.sI 8 (41 + 1) 6 0).sI 8 (41 + 1) 7 0).sI 7 41 6 0 = a2 at *
      refine b_74_44 _ _ _ (by first | (exact hc_o (by first | assumption | (exact ⟨by decide, rfl⟩))) | assumption | (exact (hc_far (by omega)).trans (by assumption))) (by omega) (by first | rfl | assumption) ?_
      rw [e2]
      refine cj_maxl ?_
      refine b_74_54 _ _ _ (by first | (exact hc_o (by first | assumption | (exact ⟨by decide, rfl⟩))) | assumption | (exact (hc_far (by omega)).trans (by assumption))) (by omega) ?_
      refine cm_enter41 (e := e + 111) hn hqo (fun g hg => ?_)
      have fe := f2.trans (cMe.en (lo := mv_lo u S.tm) (hi := v))
      have hel3 : (cEn a2 41 q (mv_lo u S.tm) v).I 7 41 6 = 0 := hel2
      have hfl3 : (cEn a2 41 q (mv_lo u S.tm) v).I 10 (41 + 12) 4 = 0 := cEn_fl
      have fe2 := fe.trans (cMe.of (cMf.re.sAL (p := 41) (q := q) (c := 5) (r := 32) (k := 1) (g := g) (Or.inr (Or.inr ⟨rfl, rfl⟩))))
      refine cm_59 (e := e) (wal := true) (many := many) (ins := ins) (bd := bd) (BN := BN) (q := q) (N := N) (tb := tb) (lo := mv_lo u S.tm) (hi := v) (Z := (mv_z0 S w).ti (mv_lo u S.tm)) hn (by decide) (by decide) hmany hbd (cEn_Mg hm0 (fun j hj => (hg j hj).trans (hm0.2.2.2.2 rfl j hj))) hel3 hfl3 hS hok (hb.me fe2) ((fe2.2 6 35 5 (by omega) (by omega) (by omega) (by omega) (by omega)).1.trans hm) (fun j hj => (hI j hj).me fe2) (fun a' l6 f' s' => fin a' _ _ _ l6 hr (fe2.trans (cMe.of f')) s')
    · intro z19
      refine b_74_29 _ _ _ ?_
      refine cm_34e hn hpo hipo (x := 2) (by decide) (fun l6 => ?_)
      refine fin _ 0 0 (.error 2) l6 ?_ (fc.trans (cMe.of (cMf.re.sI (Or.inr (Or.inr (Or.inr ⟨rfl, rfl, rfl⟩)))))) (Or.inr ⟨2, rfl, I_at, by decide, by decide⟩)
      unfold mv_run
      rw [if_neg (lg_ge.mp z7)]
      exact if_pos (Classical.not_not.mp (fun h => z19 (lg_ge.mpr (fun h' => h (by show v < S.tm; rw [← htm]; exact h')))))
  · intro z7
    refine b_74_15 _ _ _ ?_
    refine cm_34e hn hpo hipo (x := 1) (by decide) (fun l6 => ?_)
    refine fin _ 0 0 (.error 1) l6 (if_pos (Classical.not_not.mp (fun h => z7 (lg_ge.mpr h)))) (fc.trans (cMe.of (cMf.re.sI (Or.inr (Or.inr (Or.inr ⟨rfl, rfl, rfl⟩)))))) (Or.inr ⟨1, rfl, I_at, by decide, by decide⟩)
theorem cm_run67 (hn : 575 ≤ n) (hs : cSt a q S) (hT : (a.I 2 3 11 = Int32.ofNat N ∧ N ≤ 800) ∧ crg 0 N a tb ∧ mv_tok tb) (hS : mv_ok S) (hok : mz_ok tb N 100 0 S.at) (hb : cBd a BN bd tb) (hbd : ∀ j, mv_in (bd j).1 ∧ mv_in (bd j).2) (hmany : many ≤ 16) (hm : a.I 6 55 5 = Int32.ofNat many) (hI : ∀ j, j < many → cIn a 55 j (ins j)) (Ke : ∀ x a', mv_run tb bd false many ins u v (mv_z0 S w) = .error x → 1 ≤ x → x ≤ 7 → cMe 67 q a a' → a'.I 8 68 6 = 0 → a'.I 8 68 7 = 0 → Q (.inl (some (.int (Int32.ofNat x)))) (n, sl, hc a' f0)) (Kok : ∀ a' Z', mv_run tb bd false many ins u v (mv_z0 S w) = .ok Z' → cMe 67 q a a' → cSt a' q Z'.S → cEv a' 68 Z' → mv_ok Z'.S → mz_ok tb N 100 0 Z'.S.at → Q (.inl (some (.int 0))) (n, sl, hc a' f0)) : mi_W (e + 113) 74 0 (mi_en 8 [.ref 67, .ref q, .ref 55, .long u, .long v]) [] (n, sl, hc a f0) Q := by
  have hpo : mh_o 67 7 := ⟨by decide, rfl⟩
  have hipo : mh_o 55 6 := ⟨by decide, rfl⟩
  have heo : mh_o (67 + 1) 8 := ⟨by decide, rfl⟩
  have hqo : mh_o q 9 := hs.1
  have hq5 := hqo.1
  have htm : a.L 9 q 1 = S.tm := hs.2.2.1
  have fin : ∀ a1 lo hi s l6, mv_run tb bd false many ins u v (mv_z0 S w) = s → cMe 67 q a a1 → cOut a1 67 q N tb lo hi s → mi_W (e + 113) 74 133 [some (.ref 67), some (.ref q), some (.ref 55), some (.long u), none, some (.long v), none, some (.int l6)] [] (n, sl, hc a1 f0) Q := by
    intro a1 lo hi s l6 hr f1 hs'
    have hlx : ∀ x, s = .error x → 1 ≤ x ∧ x ≤ 7 := fun x hx => by
      rcases hs' with ⟨-, -, Z', hz, -⟩ | ⟨y, hy, -, h1, h2⟩
      · rw [hx] at hz
        cases hz
      · rw [hx] at hy
        cases hy
        exact ⟨h1, h2⟩
    refine cm_t67 (e := e + 112) hn hs' (fun x a2 hx hx7 f2 w1 w2 => ?_) (fun Z' hz hM hS' hok' => ?_)
    · exact Ke x a2 (hr.trans hx) hx7.1 hx7.2 (f1.trans (cMe.of f2)) w1 w2
    · exact Kok a1 Z' (hr.trans hz) f1 hM.2.2.2.1 hM.2.2.2.2.1 hS' hok'
  have fc : cMe 67 q a ((a.sI 8 (67 + 1) 6 0).sI 8 (67 + 1) 7 0) := cMe.of ((cMf.re.sI (Or.inr (Or.inl ⟨rfl, rfl⟩))).sI (Or.inr (Or.inl ⟨rfl, rfl⟩)))
  refine b_74_0 _ _ _ (by first | (exact hc_o (by first | assumption | (exact ⟨by decide, rfl⟩))) | assumption | (exact (hc_far (by omega)).trans (by assumption))) (by omega) (by first | rfl | assumption) (by first | (exact hc_o (by first | assumption | (exact ⟨by decide, rfl⟩))) | assumption | (exact (hc_far (by omega)).trans (by assumption))) (by omega) ?_
  refine ce_clear (p := 67) hn (by decide) ?_
  refine b_74_7 _ _ _ ?_ ?_
  · intro z7
    refine b_74_19 _ _ _ (by first | (exact hc_o (by first | assumption | (exact ⟨by decide, rfl⟩))) | assumption | (exact (hc_far (by omega)).trans (by assumption))) (by omega) (by first | rfl | assumption) ?_ ?_
    · intro z19
      refine b_74_33 _ _ _ ?_
      refine cm_34z hn hpo ?_
      have e2 : (((a.sI 8 (67 + 1) 6 0).sI 8 (67 + 1) 7 0).sI 7 67 6 0).L 9 q 1 = S.tm := htm
      have hr := mv_run_ok (tb := tb) (bd := bd) (many := many) (ins := ins) (wal := false) (Z := mv_z0 S w) (lg_ge.mp z7) (fun h => lg_ge.mp z19 (by show v < a.L 9 q 1; rw [htm]; exact h))
      have hm0 : cM0 (((a.sI 8 (67 + 1) 6 0).sI 8 (67 + 1) 7 0).sI 7 67 6 0) 67 q N tb (mv_z0 S w) := ⟨⟨hpo, heo, ⟨by decide, rfl⟩, by decide⟩, ⟨hT.1, hT.2.1, hT.2.2⟩, hs, ⟨⟨rfl, Nat.zero_le _, fun i hi => absurd hi (Nat.not_lt_zero i)⟩, ⟨rfl, Nat.zero_le _, fun i hi => absurd hi (Nat.not_lt_zero i)⟩⟩, fun h => absurd h (by decide)⟩
      have f2 := fc.trans (cMe.of (cMf.re.sI (p := 67) (q := q) (c := 7) (r := 67) (k := 6) (v := 0) (a := ((a.sI 8 (67 + 1) 6 0).sI 8 (67 + 1) 7 0)) (Or.inr (Or.inr (Or.inr ⟨rfl, rfl, rfl⟩)))))
      have hel2 : (((a.sI 8 (67 + 1) 6 0).sI 8 (67 + 1) 7 0).sI 7 67 6 0).I 7 67 6 = 0 := I_at
      generalize ((a.sI 8 (67 + 1) 6 0).sI 8 (67 + 1) 7 0).sI 7 67 6 0 = a2 at *
      refine b_74_44 _ _ _ (by first | (exact hc_o (by first | assumption | (exact ⟨by decide, rfl⟩))) | assumption | (exact (hc_far (by omega)).trans (by assumption))) (by omega) (by first | rfl | assumption) ?_
      rw [e2]
      refine cj_maxl ?_
      refine b_74_54 _ _ _ (by first | (exact hc_o (by first | assumption | (exact ⟨by decide, rfl⟩))) | assumption | (exact (hc_far (by omega)).trans (by assumption))) (by omega) ?_
      refine cm_enter67 (e := e + 111) hn hqo ?_
      have fe := f2.trans (cMe.en (lo := mv_lo u S.tm) (hi := v))
      have hel3 : (cEn a2 67 q (mv_lo u S.tm) v).I 7 67 6 = 0 := hel2
      have hfl3 : (cEn a2 67 q (mv_lo u S.tm) v).I 10 (67 + 12) 4 = 0 := cEn_fl
      skip
      refine cm_59 (e := e) (wal := false) (many := many) (ins := ins) (bd := bd) (BN := BN) (q := q) (N := N) (tb := tb) (lo := mv_lo u S.tm) (hi := v) (Z := (mv_z0 S w).ti (mv_lo u S.tm)) hn (by decide) (by decide) hmany hbd (cEn_M hm0 (fun h => absurd h (by decide))) hel3 hfl3 hS hok (hb.me fe) ((fe.2 6 55 5 (by omega) (by omega) (by omega) (by omega) (by omega)).1.trans hm) (fun j hj => (hI j hj).me fe) (fun a' l6 f' s' => fin a' _ _ _ l6 hr (fe.trans (cMe.of f')) s')
    · intro z19
      refine b_74_29 _ _ _ ?_
      refine cm_34e hn hpo hipo (x := 2) (by decide) (fun l6 => ?_)
      refine fin _ 0 0 (.error 2) l6 ?_ (fc.trans (cMe.of (cMf.re.sI (Or.inr (Or.inr (Or.inr ⟨rfl, rfl, rfl⟩)))))) (Or.inr ⟨2, rfl, I_at, by decide, by decide⟩)
      unfold mv_run
      rw [if_neg (lg_ge.mp z7)]
      exact if_pos (Classical.not_not.mp (fun h => z19 (lg_ge.mpr (fun h' => h (by show v < S.tm; rw [← htm]; exact h')))))
  · intro z7
    refine b_74_15 _ _ _ ?_
    refine cm_34e hn hpo hipo (x := 1) (by decide) (fun l6 => ?_)
    refine fin _ 0 0 (.error 1) l6 (if_pos (Classical.not_not.mp (fun h => z7 (lg_ge.mpr h)))) (fc.trans (cMe.of (cMf.re.sI (Or.inr (Or.inr (Or.inr ⟨rfl, rfl, rfl⟩)))))) (Or.inr ⟨1, rfl, I_at, by decide, by decide⟩)
end
