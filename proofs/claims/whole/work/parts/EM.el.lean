/-! the first object: the search -/
def ma_tp (tb : Nat → ms_N) (bd : Nat → Int64 × Int64) (l : Nat) (S : mv_S) (R : List ma_P) (c : Nat) : ma_R := if l ≤ 102 then ma_tr tb bd (ma_go tb bd (102 - l)) S R c else (0, c, [])
def ma_fin (tb : Nat → ms_N) (bd : Nat → Int64 × Int64) (Ss : Nat → mv_S) (Rs : Nat → List ma_P) (st : Nat → Nat × Int64 × Nat) : Nat → ma_R → ma_R
  | 0, r => r
  | l + 1, r => ma_fin tb bd Ss Rs st l (if r.1 = 0 then ma_tp tb bd l (Ss l) (Rs l) r.2.1 else (r.1, r.2.1, st l :: r.2.2))
/-- what the analyser leaves as it is -/
def cAf (a a' : mh_A) : Prop := (∀ c r, ¬ (c = 7 ∧ r = 67) → ¬ (c = 10 ∧ (r = 79 ∨ r = 496)) → a'.R c r = a.R c r) ∧ ∀ c r k, ¬ (c = 9 ∧ 80 ≤ r ∧ r < 496) → ¬ (c = 8 ∧ r = 68) → ¬ (c = 5 ∧ k = 1) → ¬ (c = 10 ∧ (r = 79 ∨ r = 496)) → ¬ (c = 7 ∧ r = 67) → ¬ (c = 11 ∧ r = 54) → ¬ (c = 6 ∧ r = 55) → a'.I c r k = a.I c r k ∧ a'.L c r k = a.L c r k ∧ a'.AI c r k = a.AI c r k ∧ a'.AL c r k = a.AL c r k
section
variable {l i c k : Nat} {tb : Nat → ms_N} {bd : Nat → Int64 × Int64} {S : mv_S} {R : List ma_P} {Ss Ss' : Nat → mv_S} {Rs Rs' : Nat → List ma_P} {st st' : Nat → Nat × Int64 × Nat} {r : ma_R} {a a1 a2 : mh_A} {s : ma_P} {Z : mv_Z} {go : mv_S → Nat → ma_R} {x : Nat}
theorem cAf.re : cAf a a := ⟨fun _ _ _ _ => rfl, fun _ _ _ _ _ _ _ _ _ _ => ⟨rfl, rfl, rfl, rfl⟩⟩
theorem cAf.trans (h : cAf a a1) (h' : cAf a1 a2) : cAf a a2 := ⟨fun c r h1 h2 => (h'.1 c r h1 h2).trans (h.1 c r h1 h2), fun c r k h1 h2 h3 h4 h5 h6 h7 => ⟨(h'.2 c r k h1 h2 h3 h4 h5 h6 h7).1.trans (h.2 c r k h1 h2 h3 h4 h5 h6 h7).1, (h'.2 c r k h1 h2 h3 h4 h5 h6 h7).2.1.trans (h.2 c r k h1 h2 h3 h4 h5 h6 h7).2.1, (h'.2 c r k h1 h2 h3 h4 h5 h6 h7).2.2.1.trans (h.2 c r k h1 h2 h3 h4 h5 h6 h7).2.2.1, (h'.2 c r k h1 h2 h3 h4 h5 h6 h7).2.2.2.trans (h.2 c r k h1 h2 h3 h4 h5 h6 h7).2.2.2⟩⟩
theorem cAf.tk (h : cTk l a a1) (hl : l + 1 < 104) : cAf a a1 := ⟨fun c r h1 h2 => h.1 c r h1 (by omega), fun c r k h1 h2 h3 h4 h5 h6 h7 => h.2 c r k (by omega) h2 h3 (by omega) h5 h7⟩
theorem cAf.fd (h : cFd l a a1) : cAf a a1 := ⟨fun c r h1 h2 => h.1 c r (by omega), fun c r k h1 h2 h3 h4 h5 h6 h7 => h.2.1 c r k (by omega) h6⟩
theorem cAf.fs {q : Nat} (h : cFs q a a1) (h1 : 80 ≤ q) (h2 : q < 496) : cAf a a1 := ⟨fun c r _ _ => by rw [h.1], fun c r k g1 _ _ _ _ _ _ => h.2 c r k (by omega)⟩
theorem cAf.sI {x : Int32} : cAf a (a.sI 11 54 k x) := ⟨fun _ _ _ _ => rfl, fun c r k' _ _ _ _ _ h6 _ => ⟨mh_u_x (fun e => h6 ⟨e.1, e.2.1⟩), rfl, rfl, rfl⟩⟩
theorem cAf.sAI {g : Nat → Int32} : cAf a (a.sAI 11 54 k g) := ⟨fun _ _ _ _ => rfl, fun c r k' _ _ _ _ _ h6 _ => ⟨rfl, rfl, mh_u_x (fun e => h6 ⟨e.1, e.2.1⟩), rfl⟩⟩
theorem ma_tr_s : ma_tr tb bd go S (s :: R) c = if (ma_st tb bd go S s c).1 = 0 then ma_tr tb bd go S R (ma_st tb bd go S s c).2.1 else ma_st tb bd go S s c := rfl
theorem ma_st_f (h : 5000 < c + 1) : ma_st tb bd go S s c = (2, c + 1, []) := if_pos h
theorem ma_st_e (h : ¬ 5000 < c + 1) (ho : ma_ou tb bd S s = .error x) : ma_st tb bd go S s c = (0, c + 1, []) := by
  unfold ma_st
  rw [if_neg h, ho]
theorem ma_st_w (h : ¬ 5000 < c + 1) (ho : ma_ou tb bd S s = .ok Z) (hw : 0 < Z.ws.1) : ma_st tb bd go S s c = (1, c + 1, [(s.1, s.2.1, s.2.2.1)]) := by
  unfold ma_st
  rw [if_neg h, ho]
  dsimp only
  rw [if_pos hw]
theorem ma_st_g (h : ¬ 5000 < c + 1) (ho : ma_ou tb bd S s = .ok Z) (hw : ¬ 0 < Z.ws.1) : ma_st tb bd go S s c = ((go Z.S (c + 1)).1, (go Z.S (c + 1)).2.1, (s.1, s.2.1, s.2.2.1) :: (go Z.S (c + 1)).2.2) := by
  unfold ma_st
  rw [if_neg h, ho]
  dsimp only
  rw [if_neg hw]
theorem ma_tp_go (hl : l ≤ 102) : ma_go tb bd (102 - l) S c = ma_tp tb bd (l + 1) S (ma_sp tb bd S) c := by
  unfold ma_tp
  by_cases h : l + 1 ≤ 102
  · rw [if_pos h]
    obtain ⟨k, hk⟩ : ∃ k, 102 - l = k + 1 := ⟨102 - l - 1, by omega⟩
    have : 102 - (l + 1) = k := by omega
    rw [hk, this]
    rfl
  · rw [if_neg h]
    have : 102 - l = 0 := by omega
    rw [this]
    rfl
theorem ma_tp_le (hl : l ≤ 102) : ma_tp tb bd l S R c = ma_tr tb bd (ma_go tb bd (102 - l)) S R c := if_pos hl
theorem ma_fin_eq (h1 : ∀ i, i < l → Ss' i = Ss i ∧ Rs' i = Rs i ∧ st' i = st i) : ∀ r, ma_fin tb bd Ss' Rs' st' l r = ma_fin tb bd Ss Rs st l r := by
  induction l with
  | zero =>
    intro r
    rfl
  | succ l ih =>
    intro r
    have h := h1 l (by omega)
    show ma_fin tb bd Ss' Rs' st' l (if r.1 = 0 then ma_tp tb bd l (Ss' l) (Rs' l) r.2.1 else (r.1, r.2.1, st' l :: r.2.2)) = ma_fin tb bd Ss Rs st l (if r.1 = 0 then ma_tp tb bd l (Ss l) (Rs l) r.2.1 else (r.1, r.2.1, st l :: r.2.2))
    rw [h.1, h.2.1, h.2.2]
    exact ih (fun i hi => h1 i (by omega)) _
theorem ma_fin_ne : ∀ (l : Nat) (r : ma_R), ¬ r.1 = 0 → ma_fin tb bd Ss Rs st l r = (r.1, r.2.1, (List.range l).map st ++ r.2.2) := by
  intro l
  induction l with
  | zero =>
    intro r _
    rfl
  | succ l ih =>
    intro r h
    show ma_fin tb bd Ss Rs st l (if r.1 = 0 then ma_tp tb bd l (Ss l) (Rs l) r.2.1 else (r.1, r.2.1, st l :: r.2.2)) = _
    rw [if_neg h, ih (r.1, r.2.1, st l :: r.2.2) h]
    dsimp only
    rw [List.range_succ, List.map_append, List.append_assoc]
    rfl
theorem ma_fin_s : ma_fin tb bd Ss Rs st (l + 1) r = ma_fin tb bd Ss Rs st l (if r.1 = 0 then ma_tp tb bd l (Ss l) (Rs l) r.2.1 else (r.1, r.2.1, st l :: r.2.2)) := rfl
end
section
variable {e n sl N BN : Nat} {a0 a : mh_A} {f0 : Nat → mi_C} {Q : (Option Value ⊕ Nat) → mi_H → Prop} {q : Nat} {tb : Nat → ms_N} {bd : Nat → Int64 × Int64} {gl : Nat → Option Nat} {F : ma_R}
/-- the search at level l: what lies on the levels -/
def cStk (a : mh_A) (N : Nat) (tb : Nat → ms_N) (bd : Nat → Int64 × Int64) (l : Nat) (Ss : Nat → mv_S) (Rs : Nat → List ma_P) (st : Nat → Nat × Int64 × Nat) : Prop := (∀ i, i ≤ l → cSt a (80 + 4 * i) (Ss i) ∧ mv_ok (Ss i) ∧ mz_ok tb N 100 0 (Ss i).at ∧ mo_NB tb bd (Ss i).at ∧ cRem a i N tb bd (Ss i) (Rs i)) ∧ ∀ i, i < l → a.AI 11 54 7 i = Int32.ofNat (st i).1 ∧ a.AL 11 54 8 i = (st i).2.1 ∧ a.AI 11 54 9 i = mz_lk (st i).2.2
/-- what comes of the search -/
def cRes (a' : mh_A) (F : ma_R) : Prop := a'.I 11 54 10 = Int32.ofNat F.2.1 ∧ (¬ F.1 = 1 → a'.I 11 54 11 = 0) ∧ (F.1 = 1 → a'.I 11 54 11 = Int32.ofNat F.2.2.length ∧ F.2.2.length ≤ 104 ∧ ∀ i p, F.2.2[i]? = some p → a'.AI 11 54 7 i = Int32.ofNat p.1 ∧ a'.AL 11 54 8 i = p.2.1 ∧ a'.AI 11 54 9 i = mz_lk p.2.2) ∧ F.1 ≤ 2 ∧ F.2.1 ≤ 5001
theorem cRem.to {a a1 : mh_A} {i : Nat} {S : mv_S} {R : List ma_P} (h : cRem a i N tb bd S R) (h5 : a1.AI 11 54 5 i = a.AI 11 54 5 i) (h6 : a1.AI 11 54 6 i = a.AI 11 54 6 i) : cRem a1 i N tb bd S R := by
  rcases h with h | h | ⟨h4, t, m, j, ⟨e1, e2, e3, e4⟩, hR⟩
  · exact Or.inl ⟨h5.trans h.1, h.2⟩
  · exact Or.inr (Or.inl ⟨h5.trans h.1, h.2⟩)
  · exact Or.inr (Or.inr ⟨h4, t, m, j, ⟨e1, h5.trans e2, h6.trans e3, e4⟩, hR⟩)
theorem ca_loop (hn : 575 ≤ n) (hLv : cLv f0 gl) (K : ∀ a', cAf a0 a' → cRes a' F → Q (.inl (some (.int (Int32.ofNat F.1)))) (n, sl, hc a' f0)) : ∀ (f τ l c : Nat) (a : mh_A) (Ss : Nat → mv_S) (Rs : Nat → List ma_P) (st : Nat → Nat × Int64 × Nat), τ + f = 20000 → τ + l ≤ 2 * c → c ≤ 5000 → l ≤ 103 → cAf a0 a → cTb a N BN tb bd → cStk a N tb bd l Ss Rs st → a.I 11 54 10 = Int32.ofNat c → a.I 11 54 11 = 0 → ma_fin tb bd Ss Rs st l (ma_tp tb bd l (Ss l) (Rs l) c) = F → mi_W (e + 115) 121 48 [some (.ref 54), some (.ref q), some (.int (Int32.ofNat l)), some (.int (Int32.ofNat τ))] [] (n, sl, hc a f0) Q := by
  intro f
  induction f with
  | zero =>
    intro τ l c a Ss Rs st h1 h2 h3
    omega
  | succ f ih =>
    intro τ l c a Ss Rs st hτ hτl hc5 hl hAf hT hStk h10 h11 hF
    have hix := ix_of (w := l) (m := 104) (by omega) (by omega)
    have pop : ∀ (a1 : mh_A), cAf a0 a1 → cTb a1 N BN tb bd → (∀ i, i < l → cSt a1 (80 + 4 * i) (Ss i) ∧ cRem a1 i N tb bd (Ss i) (Rs i) ∧ a1.AI 11 54 7 i = a.AI 11 54 7 i ∧ a1.AL 11 54 8 i = a.AL 11 54 8 i ∧ a1.AI 11 54 9 i = a.AI 11 54 9 i) → a1.I 11 54 10 = Int32.ofNat c → a1.I 11 54 11 = 0 → ma_tp tb bd l (Ss l) (Rs l) c = (0, c, []) → mi_W (e + 115) 121 75 [some (.ref 54), some (.ref q), some (.int (Int32.ofNat l)), some (.int (Int32.ofNat τ))] [] (n, sl, hc a1 f0) Q := by
      intro a1 hAf1 hT1 hlv1 g10 g11 htp
      rw [htp] at hF
      cases l with
      | zero =>
        have hF' : ((0, c, []) : ma_R) = F := hF
        subst hF'
        refine b_121_75 _ _ _ ?_
        refine b_121_145 _ _ _ ?_
        rw [of_succ]
        refine b_121_48 _ _ _ ?_ ?_
        · intro z48
          exact absurd ((i_le (a := 20000) rfl rfl (by omega) (by omega)).mp z48) (by omega)
        · intro z48
          refine b_121_55 _ _ _ ?_ ?_
          · intro z55
            refine b_121_151 _ _ _ ?_
            exact K a1 hAf1 ⟨g10, fun _ => g11, fun h => absurd h (show ¬ (0 : Nat) = 1 by decide), (show (0 : Nat) ≤ 2 by decide), by show c ≤ 5001; omega⟩
          · intro z55
            exact absurd (by decide) z55
      | succ l =>
        rw [ma_fin_s] at hF
        dsimp only at hF
        rw [if_pos rfl] at hF
        have hdec : Int32.ofNat (l + 1) + -1 = Int32.ofNat l := by
          rw [← Int32.sub_eq_add_neg]
          exact of_sub1 l
        refine b_121_75 _ _ _ ?_
        rw [hdec]
        refine b_121_145 _ _ _ ?_
        rw [of_succ]
        refine ih (τ + 1) l c a1 Ss Rs st (by omega) (by omega) hc5 (by omega) hAf1 hT1 ⟨fun i hi => ⟨(hlv1 i (by omega)).1, (hStk.1 i (by omega)).2.1, (hStk.1 i (by omega)).2.2.1, (hStk.1 i (by omega)).2.2.2.1, (hlv1 i (by omega)).2.1⟩, fun i hi => ?_⟩ g10 g11 hF
        obtain ⟨-, -, q7, q8, q9⟩ := hlv1 i (by omega)
        have := hStk.2 i (by omega)
        rw [q7, q8, q9]
        exact this
    by_cases hl3 : l = 103
    · subst hl3
      refine b_121_48 _ _ _ ?_ ?_
      · intro z48
        exact absurd ((i_le (a := 20000) rfl rfl (by omega) (by omega)).mp z48) (by omega)
      · intro z48
        refine b_121_55 _ _ _ ?_ ?_
        · intro z55
          exact absurd z55 (by decide)
        · intro z55
          refine b_121_59 _ _ _ ?_ ?_
          · intro z59
            exact pop a hAf hT (fun i hi => ⟨(hStk.1 i (by omega)).1, (hStk.1 i (by omega)).2.2.2.2, rfl, rfl, rfl⟩) h10 h11 (if_neg (by decide))
          · intro z59
            exact absurd (by decide) z59
    · have hl2 : l ≤ 102 := by omega
      obtain ⟨sl1, sl2, sl3, sl4, sl5⟩ := hStk.1 l (Nat.le_refl _)
      have hlt : ¬ (104 : Int32) ≤ Int32.ofNat l + 1 := fun h => by
        rw [of_succ] at h
        have := (i_le (a := 104) rfl rfl (by omega) (by omega)).mp h
        omega
      have heo : mh_o 68 8 := ⟨by decide, rfl⟩
      have hmo : mh_o 67 7 := ⟨by decide, rfl⟩
      refine b_121_48 _ _ _ ?_ ?_
      · intro z48
        exact absurd ((i_le (a := 20000) rfl rfl (by omega) (by omega)).mp z48) (by omega)
      · intro z48
        refine b_121_55 _ _ _ ?_ ?_
        · intro z55
          exact absurd z55 (of_nn (by omega))
        · intro z55
          refine b_121_59 _ _ _ ?_ ?_
          · intro z59
            exact absurd z59 hlt
          · intro z59
            refine b_121_67 _ _ _ (by first | (exact hc_o (by first | assumption | (exact ⟨by decide, rfl⟩))) | assumption | (exact (hc_far (by omega)).trans (by assumption))) (by omega) ?_
            refine ca_find (e := e + 9) hn hLv (by omega) sl1 hT sl2 sl3 sl4 sl5 (fun a1 s R' hR r1 c1 v1 f1 => ?_) (fun a1 hR f1 => ?_)
            · have hT1 := hT.fd f1
              have hA1 := hAf.trans (cAf.fd f1)
              have g10 := (f1.2.2.1 10).trans h10
              have g11 := (f1.2.2.1 11).trans h11
              have lo1 : ∀ i, i < l → cSt a1 (80 + 4 * i) (Ss i) ∧ cRem a1 i N tb bd (Ss i) (Rs i) ∧ a1.AI 11 54 7 i = a.AI 11 54 7 i ∧ a1.AL 11 54 8 i = a.AL 11 54 8 i ∧ a1.AI 11 54 9 i = a.AI 11 54 9 i := fun i hi => ⟨(hStk.1 i (by omega)).1.fd f1, (hStk.1 i (by omega)).2.2.2.2.to (f1.2.2.2 5 i (by omega)).1 (f1.2.2.2 6 i (by omega)).1, (f1.2.2.2 7 i (by omega)).1, (f1.2.2.2 8 i (by omega)).2, (f1.2.2.2 9 i (by omega)).1⟩
              refine b_121_72 _ _ _ ?_ ?_
              · intro z72
                refine b_121_81 _ _ _ (by first | (exact hc_o (by first | assumption | (exact ⟨by decide, rfl⟩))) | assumption | (exact (hc_far (by omega)).trans (by assumption))) (by omega) (by first | rfl | assumption) (by first | (exact hc_o (by first | assumption | (exact ⟨by decide, rfl⟩))) | assumption | (exact (hc_far (by omega)).trans (by assumption))) (by omega) (Nat.le_of_ble_eq_true rfl) (by first | (exact (congrFun (hw_I (by first | assumption | (exact ⟨by decide, rfl⟩)) (by decide)) _).trans (hc_o (by first | assumption | (exact ⟨by decide, rfl⟩)))) | assumption | (exact (hc_far (by omega)).trans (by assumption))) (by omega) (by first | rfl | assumption) ?_ ?_
                · intro z81
                  refine hw_W (hw_I (by first | assumption | (exact ⟨by decide, rfl⟩)) (by decide)) ?_
                  rw [g10, of_succ] at z81 ⊢
                  have hc1 : ¬ 5000 < c + 1 := Nat.not_lt.mpr ((i_le (b := 5000) rfl rfl (by omega) (by omega)).mp (by rw [I_at] at z81; exact z81))
                  refine b_121_103 _ _ _ (by first | (exact hc_o (by first | assumption | (exact ⟨by decide, rfl⟩))) | assumption | (exact (hc_far (by omega)).trans (by assumption))) (by omega) ?_
                  have hA2 := hA1.trans (cAf.sI (k := 10) (x := Int32.ofNat (c + 1)))
                  have hT2 : cTb (a1.sI 11 54 10 (Int32.ofNat (c + 1))) N BN tb bd := hT1
                  have sq1 : cSt a1 (80 + 4 * l) (Ss l) := sl1.fd f1
                  refine ca_take (e := e) hn hLv (by omega) (show cSt (a1.sI 11 54 10 (Int32.ofNat (c + 1))) (80 + 4 * l) (Ss l) from sq1) hT2 sl2 sl3 (show cStp (a1.sI 11 54 10 (Int32.ofNat (c + 1))) l s from c1) v1 (fun a2 Z hou f2 s2 w2 w8 => ?_) (fun a2 x hou f2 => ?_)
                  · have f2x : ∀ k, a2.I 11 54 k = (a1.sI 11 54 10 (Int32.ofNat (c + 1))).I 11 54 k ∧ a2.AI 11 54 k = a1.AI 11 54 k ∧ a2.AL 11 54 k = a1.AL 11 54 k := fun k => ⟨(f2.2 11 54 k (by omega) (by omega) (by omega) (by omega) (by omega) (by omega)).1, (f2.2 11 54 k (by omega) (by omega) (by omega) (by omega) (by omega) (by omega)).2.2⟩
                    have k10 : a2.I 11 54 10 = Int32.ofNat (c + 1) := (f2x 10).1.trans I_at
                    have k11 : a2.I 11 54 11 = 0 := (f2x 11).1.trans g11
                    have hA3 := hA2.trans (cAf.tk f2 (by omega))
                    have lo2 : ∀ i, i ≤ l → cSt a2 (80 + 4 * i) (Ss i) := fun i hi => cSt.tk (a := a1.sI 11 54 10 (Int32.ofNat (c + 1))) (show cSt a1 (80 + 4 * i) (Ss i) from (hStk.1 i hi).1.fd f1) f2 (by omega)
                    have rm2 : ∀ i, i < l → cRem a2 i N tb bd (Ss i) (Rs i) := fun i hi => (lo1 i hi).2.1.to (congrFun (f2x 5).2.1 i) (congrFun (f2x 6).2.1 i)
                    have rml : cRem a2 l N tb bd (Ss l) R' := r1.to (congrFun (f2x 5).2.1 l) (congrFun (f2x 6).2.1 l)
                    have ar2 : ∀ i, i < l → a2.AI 11 54 7 i = Int32.ofNat (st i).1 ∧ a2.AL 11 54 8 i = (st i).2.1 ∧ a2.AI 11 54 9 i = mz_lk (st i).2.2 := fun i hi => by rw [(f2x 7).2.1, (f2x 8).2.2, (f2x 9).2.1, (lo1 i hi).2.2.1, (lo1 i hi).2.2.2.1, (lo1 i hi).2.2.2.2]; exact hStk.2 i hi
                    refine b_121_108 _ _ _ ?_ ?_
                    · intro z108
                      have hnl : ¬ (s.1 = 1 ∧ s.2.2.2 = true) := fun h => by
                        unfold ma_ou at hou
                        rw [if_pos h] at hou
                        cases hou
                      have arl : a2.AI 11 54 7 l = Int32.ofNat s.1 ∧ a2.AL 11 54 8 l = s.2.1 ∧ a2.AI 11 54 9 l = mz_lk s.2.2.1 := by
                        rw [(f2x 7).2.1, (f2x 8).2.2, (f2x 9).2.1]
                        exact ⟨c1.1.1, c1.2.2.1 hnl, c1.2.1⟩
                      refine b_121_114 _ _ _ (by first | (exact hc_o (by first | assumption | (exact ⟨by decide, rfl⟩))) | assumption | (exact (hc_far (by omega)).trans (by assumption))) (by omega) (by first | rfl | assumption) (by first | (exact hc_o (by first | assumption | (exact ⟨by decide, rfl⟩))) | assumption | (exact (hc_far (by omega)).trans (by assumption))) (by omega) (by first | rfl | assumption) (by first | (exact hc_o (by first | assumption | (exact ⟨by decide, rfl⟩))) | assumption | (exact (hc_far (by omega)).trans (by assumption))) (by omega) (by first | rfl | assumption) ?_ ?_
                      · intro z114
                        have hw : ¬ 0 < Z.ws.1 := Nat.not_lt.mpr ((i_le (b := 0) w2 rfl (by omega) (by omega)).mp z114)
                        rw [of_succ]
                        have hix1 := ix_of (w := l + 1) (m := 104) (by omega) (by omega)
                        obtain ⟨k', J', -, -, nb', -⟩ := ma_ou_ok hT.1.2.2 (fun j => ms_bo_in (hT.2.2 j)) sl2 sl3 (Nat.le_refl 100) sl4 hou
                        refine b_121_137 _ _ _ _ _ _ (by first | (exact hc_o (by first | assumption | (exact ⟨by decide, rfl⟩))) | assumption | (exact (hc_far (by omega)).trans (by assumption))) (by omega) (by first | rfl | assumption) (by first | (exact hc_ai (by omega) (by first | assumption | (exact (ht9 (by assumption)).2.1) | (exact (ht9 (by assumption)).2.2.1) | (exact (ht9 (by assumption)).2.2.2) | rfl) (by decide)) | assumption | (exact (hc_far (by omega)).trans (by assumption))) (by omega) (by first | assumption | (exact ix_of (by omega) (by omega)) | (exact ⟨by decide, rfl, by decide⟩)) ?_
                        refine hw_W (hw_AI (by omega) rfl (by decide)) ?_
                        refine b_121_145 _ _ _ ?_
                        rw [of_succ]
                        have key : ma_fin tb bd (va_up Ss (l + 1) Z.S) (va_up (va_up Rs l R') (l + 1) (ma_sp tb bd Z.S)) (va_up st l (s.1, s.2.1, s.2.2.1)) (l + 1) (ma_tp tb bd (l + 1) (va_up Ss (l + 1) Z.S (l + 1)) (va_up (va_up Rs l R') (l + 1) (ma_sp tb bd Z.S) (l + 1)) (c + 1)) = F := by
                          rw [← hF, ma_tp_le hl2, hR, ma_tr_s, ma_st_g hc1 hou hw, va_eq, va_eq, ← ma_tp_go hl2, ma_fin_s, va_ne (by omega : ¬ l = l + 1), va_ne (by omega : ¬ l = l + 1), va_eq, va_eq, ma_tp_le hl2]
                          dsimp only
                          exact ma_fin_eq (fun i hi => ⟨va_ne (by omega), (va_ne (by omega)).trans (va_ne (by omega)), va_ne (by omega)⟩) _
                        have hT3 : cTb a2 N BN tb bd := hT2.tk f2
                        refine ih (τ + 1) (l + 1) (c + 1) (a2.sAI 11 54 5 (upd (a2.AI 11 54 5) (l + 1) (-3))) _ _ _ (by omega) (by omega) (by omega) (by omega) (hA3.trans cAf.sAI) hT3 ⟨fun i hi => ?_, fun i hi => ?_⟩ k10 k11 key
                        · by_cases e : i = l + 1
                          · rw [e, va_eq, va_eq]
                            refine ⟨s2, J'.1, mz_ok_le J'.2.2.2.1 J'.2.2.1, nb', Or.inl ⟨?_, rfl⟩⟩
                            rw [AI_at, upd_at]
                          · rw [va_ne e, va_ne e]
                            refine ⟨lo2 i (by omega), (hStk.1 i (by omega)).2.1, (hStk.1 i (by omega)).2.2.1, (hStk.1 i (by omega)).2.2.2.1, ?_⟩
                            have e5 : (a2.sAI 11 54 5 (upd (a2.AI 11 54 5) (l + 1) (-3))).AI 11 54 5 i = a2.AI 11 54 5 i := by
                              rw [AI_at, upd_ne e]
                            by_cases e' : i = l
                            · subst e'
                              rw [va_eq]
                              exact rml.to e5 rfl
                            · rw [va_ne e']
                              exact (rm2 i (by omega)).to e5 rfl
                        · by_cases e : i = l
                          · rw [e, va_eq]
                            exact arl
                          · rw [va_ne e]
                            exact ar2 i (by omega)
                      · intro z114
                        have hw : 0 < Z.ws.1 := Nat.lt_of_not_le (fun h => z114 ((i_le (b := 0) w2 rfl (by omega) (by omega)).mpr h))
                        rw [of_succ]
                        rw [ma_tp_le hl2, hR, ma_tr_s, ma_st_w hc1 hou hw, if_neg (show ¬ (1 : Nat) = 0 by decide), ma_fin_ne l _ (show ¬ (1 : Nat) = 0 by decide)] at hF
                        subst hF
                        refine b_121_130 _ _ _ (by first | (exact hc_o (by first | assumption | (exact ⟨by decide, rfl⟩))) | assumption | (exact (hc_far (by omega)).trans (by assumption))) (by omega) (Nat.le_of_ble_eq_true rfl) ?_
                        refine hw_Q (hw_I ⟨by decide, rfl⟩ (by decide)) ?_
                        refine K _ (hA3.trans cAf.sI) ⟨k10, fun h => absurd rfl h, fun _ => ⟨?_, ?_, fun i p hp => ?_⟩, (show (1 : Nat) ≤ 2 by decide), by show c + 1 ≤ 5001; omega⟩
                        · rw [I_at]
                          simp
                        · simp
                          omega
                        · dsimp only at hp
                          by_cases hi : i < l
                          · rw [List.getElem?_append_left (by simp; exact hi)] at hp
                            rw [List.getElem?_map, List.getElem?_range hi] at hp
                            cases hp
                            exact ar2 i hi
                          · rw [List.getElem?_append_right (by simp; omega)] at hp
                            simp only [List.length_map, List.length_range] at hp
                            have hi0 : i - l = 0 := by
                              by_cases h0 : i - l = 0
                              · exact h0
                              · obtain ⟨x, hx⟩ : ∃ x, i - l = x + 1 := ⟨i - l - 1, by omega⟩
                                rw [hx] at hp
                                simp at hp
                            have hil : i = l := by omega
                            rw [hi0] at hp
                            cases hp
                            rw [hil]
                            exact arl
                    · intro z108
                      first | (exact absurd z108 (by decide)) | (exact absurd (by decide) z108) | (exact absurd rfl z108) | (exact absurd z108 (of_nn (by omega))) | (exact absurd (of_np (by omega)) z108) | omega
                  · have f2x : ∀ k, a2.I 11 54 k = (a1.sI 11 54 10 (Int32.ofNat (c + 1))).I 11 54 k ∧ a2.AI 11 54 k = a1.AI 11 54 k ∧ a2.AL 11 54 k = a1.AL 11 54 k := fun k => ⟨(f2.2 11 54 k (by omega) (by omega) (by omega) (by omega) (by omega) (by omega)).1, (f2.2 11 54 k (by omega) (by omega) (by omega) (by omega) (by omega) (by omega)).2.2⟩
                    have k10 : a2.I 11 54 10 = Int32.ofNat (c + 1) := (f2x 10).1.trans I_at
                    have k11 : a2.I 11 54 11 = 0 := (f2x 11).1.trans g11
                    have hA3 := hA2.trans (cAf.tk f2 (by omega))
                    have lo2 : ∀ i, i ≤ l → cSt a2 (80 + 4 * i) (Ss i) := fun i hi => cSt.tk (a := a1.sI 11 54 10 (Int32.ofNat (c + 1))) (show cSt a1 (80 + 4 * i) (Ss i) from (hStk.1 i hi).1.fd f1) f2 (by omega)
                    have rm2 : ∀ i, i < l → cRem a2 i N tb bd (Ss i) (Rs i) := fun i hi => (lo1 i hi).2.1.to (congrFun (f2x 5).2.1 i) (congrFun (f2x 6).2.1 i)
                    have rml : cRem a2 l N tb bd (Ss l) R' := r1.to (congrFun (f2x 5).2.1 l) (congrFun (f2x 6).2.1 l)
                    have ar2 : ∀ i, i < l → a2.AI 11 54 7 i = Int32.ofNat (st i).1 ∧ a2.AL 11 54 8 i = (st i).2.1 ∧ a2.AI 11 54 9 i = mz_lk (st i).2.2 := fun i hi => by rw [(f2x 7).2.1, (f2x 8).2.2, (f2x 9).2.1, (lo1 i hi).2.2.1, (lo1 i hi).2.2.2.1, (lo1 i hi).2.2.2.2]; exact hStk.2 i hi
                    refine b_121_108 _ _ _ ?_ ?_
                    · intro z108
                      first | (exact absurd z108 (by decide)) | (exact absurd (by decide) z108) | (exact absurd rfl z108) | (exact absurd z108 (of_nn (by omega))) | (exact absurd (of_np (by omega)) z108) | omega
                    · intro z108
                      refine b_121_111 _ _ _ ?_
                      refine b_121_145 _ _ _ ?_
                      rw [of_succ]
                      have key : ma_fin tb bd Ss (va_up Rs l R') st l (ma_tp tb bd l (Ss l) (va_up Rs l R' l) (c + 1)) = F := by
                        rw [← hF, ma_tp_le hl2, ma_tp_le hl2, hR, ma_tr_s, ma_st_e hc1 hou, va_eq]
                        dsimp only
                        rw [if_pos rfl]
                        exact ma_fin_eq (fun i hi => ⟨rfl, va_ne (by omega), rfl⟩) _
                      refine ih (τ + 1) l (c + 1) a2 Ss (va_up Rs l R') st (by omega) (by omega) (by omega) hl hA3 (hT2.tk f2) ⟨fun i hi => ⟨lo2 i hi, (hStk.1 i hi).2.1, (hStk.1 i hi).2.2.1, (hStk.1 i hi).2.2.2.1, ?_⟩, ar2⟩ k10 k11 key
                      by_cases e : i = l
                      · rw [e, va_eq]
                        exact rml
                      · rw [va_ne e]
                        exact rm2 i (by omega)
                · intro z81
                  refine hw_W (hw_I (by first | assumption | (exact ⟨by decide, rfl⟩)) (by decide)) ?_
                  rw [g10, of_succ] at z81 ⊢
                  have hc1 : 5000 < c + 1 := Nat.lt_of_not_le (fun h => z81 (by rw [I_at]; exact (i_le (b := 5000) rfl rfl (by omega) (by omega)).mpr h))
                  refine b_121_101 _ _ _ ?_
                  rw [ma_tp_le hl2, hR, ma_tr_s, ma_st_f hc1, if_neg (show ¬ (2 : Nat) = 0 by decide), ma_fin_ne l _ (show ¬ (2 : Nat) = 0 by decide)] at hF
                  subst hF
                  exact K _ (hA1.trans cAf.sI) ⟨I_at, fun _ => g11, fun h => absurd h (show ¬ (2 : Nat) = 1 by decide), (show (2 : Nat) ≤ 2 by decide), by show c + 1 ≤ 5001; omega⟩
              · intro z72
                first | (exact absurd z72 (by decide)) | (exact absurd (by decide) z72) | (exact absurd rfl z72) | (exact absurd z72 (of_nn (by omega))) | (exact absurd (of_np (by omega)) z72) | omega
            · have lo1 : ∀ i, i < l → cSt a1 (80 + 4 * i) (Ss i) ∧ cRem a1 i N tb bd (Ss i) (Rs i) ∧ a1.AI 11 54 7 i = a.AI 11 54 7 i ∧ a1.AL 11 54 8 i = a.AL 11 54 8 i ∧ a1.AI 11 54 9 i = a.AI 11 54 9 i := fun i hi => ⟨(hStk.1 i (by omega)).1.fd f1, (hStk.1 i (by omega)).2.2.2.2.to (f1.2.2.2 5 i (by omega)).1 (f1.2.2.2 6 i (by omega)).1, (f1.2.2.2 7 i (by omega)).1, (f1.2.2.2 8 i (by omega)).2, (f1.2.2.2 9 i (by omega)).1⟩
              refine b_121_72 _ _ _ ?_ ?_
              · intro z72
                first | (exact absurd z72 (by decide)) | (exact absurd (by decide) z72) | (exact absurd rfl z72) | (exact absurd z72 (of_nn (by omega))) | (exact absurd (of_np (by omega)) z72) | omega
              · intro z72
                refine pop a1 (hAf.trans (cAf.fd f1)) (hT.fd f1) lo1 ((f1.2.2.1 10).trans h10) ((f1.2.2.1 11).trans h11) ?_
                rw [ma_tp_le hl2, hR]
                rfl
end
