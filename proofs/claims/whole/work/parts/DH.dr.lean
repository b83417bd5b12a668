/-! the first object: all inputs -/
section
variable {d e n sl N : Nat} {a a0 a1 a2 : mh_A} {f0 : Nat → mi_C} {Q : (Option Value ⊕ Nat) → mi_H → Prop} {p q qq i j c k r m ip BN many : Nat} {tb : Nat → ms_N} {lo hi v w : Int64} {Z : mv_Z} {bd : Nat → Int64 × Int64} {ins : Nat → mv_I} {wal : Bool}
/-- what comes of a piece of a transaction -/
def cOut (a' : mh_A) (p q N : Nat) (tb : Nat → ms_N) (lo hi : Int64) (s : Except Nat mv_Z) : Prop := (a'.I 7 p 6 = 0 ∧ a'.I 10 (p + 12) 4 = 0 ∧ ∃ Z', s = .ok Z' ∧ cM a' p q N tb lo hi Z' ∧ mv_ok Z'.S ∧ mz_ok tb N 100 0 Z'.S.at) ∨ ∃ x, s = .error x ∧ a'.I 7 p 6 = Int32.ofNat x ∧ 1 ≤ x ∧ x ≤ 7
theorem cm_92e (hn : 575 ≤ n) (hp : mh_o p 7) (hipo : mh_o ip 6) (he : ¬ a.I 7 p 6 = 0) (K : ∀ l6, mi_W d 74 133 [some (.ref p), some (.ref qq), some (.ref ip), some (.long v), none, some (.long w), none, some (.int l6)] [] (n, sl, hc a f0) Q) : mi_W d 74 92 [some (.ref p), some (.ref qq), some (.ref ip), some (.long v), none, some (.long w), none, some (.int (Int32.ofNat k))] [] (n, sl, hc a f0) Q := by
  have hp5 := hp.1
  have hip5 := hipo.1
  refine b_74_92 _ _ _ (by first | (exact hc_o (by first | assumption | (exact ⟨by decide, rfl⟩))) | assumption | (exact (hc_far (by omega)).trans (by assumption))) (by omega) (by first | rfl | assumption) ?_ ?_
  · intro z92
    exact K _
  · intro z92
    refine b_74_101 _ _ _ ?_ ?_
    · intro z101
      exact K _
    · intro z101
      refine b_74_108 _ _ _ (by first | (exact hc_o (by first | assumption | (exact ⟨by decide, rfl⟩))) | assumption | (exact (hc_far (by omega)).trans (by assumption))) (by omega) (by first | rfl | assumption) ?_ ?_
      · intro z108
        exact K _
      · intro z108
        exact absurd (Classical.not_not.mp z108) he
theorem mv_red_le {t : Nat} {b : Bool} {x : Nat} : ∀ Z, mv_red tb lo hi t b Z = .error x → 1 ≤ x ∧ x ≤ 7 := by
  induction t generalizing b with
  | zero =>
    intro Z h
    cases h
  | succ t ih =>
    intro Z h
    unfold mv_red at h
    cases hs : mv_step tb lo hi Z with
    | error y =>
      rw [hs] at h
      cases h
      unfold mv_step at hs
      generalize mv_E tb Z.S lo hi 100 = R at hs
      rcases tb Z.S.at with ⟨op, A, B, D, u, x', y', z, t⟩
      unfold mv_s1 at hs
      dsimp only at hs
      repeat' split at hs
      all_goals first | (cases hs; omega) | cases hs
    | ok o =>
      rw [hs] at h
      cases o with
      | none => cases h
      | some Z' => exact ih Z' h
theorem mv_take_le {x : Nat} {I : mv_I} (h : mv_take tb bd wal lo hi I Z = .error x) : 1 ≤ x ∧ x ≤ 7 := by
  unfold mv_take at h
  generalize mv_E tb Z.S lo hi 100 = R at h
  split at h
  · revert h
    generalize (tb Z.S.at).2.2.2.2.2.1 = m
    generalize 8 = t
    induction t generalizing m with
    | zero =>
      intro h
      cases h
      omega
    | succ t ih =>
      intro h
      rw [mv_tks_s] at h
      split at h
      · cases h
        omega
      · cases hf : mv_fits bd R I (tb m) with
        | none =>
          rw [hf] at h
          cases h
          omega
        | some b =>
          rw [hf] at h
          cases b with
          | false => exact ih _ h
          | true =>
            have h : mv_acc wal m I.2.2.2.2 Z (tb m) = .error x := h
            rcases tb m with ⟨op, A, B, D, u, x', y', z, t⟩
            unfold mv_acc at h
            dsimp only at h
            repeat' split at h
            all_goals first | (cases h; omega) | cases h
  · cases h
    omega
theorem of_17 {x : Nat} (h1 : 1 ≤ x) (h2 : x ≤ 7) : ¬ Int32.ofNat x = 0 := fun e => absurd ((of_eq (a := x) (b := 0) (by omega) (by omega)).mp e) (by omega)
def mv_rd (tb : Nat → ms_N) (lo hi : Int64) (s : Except Nat mv_Z) : Except Nat mv_Z := match s with
  | .error e => .error e
  | .ok Z1 => match mv_red tb lo hi 148 false Z1 with
    | .error e => .error e
    | .ok (_, Z2) => .ok Z2
theorem cm_rd {s : Except Nat mv_Z} (hn : 575 ≤ n) (hpo : mh_o p 7) (hs : cOut a p q N tb lo hi s) (K : ∀ a' r, cMf p q a a' → cOut a' p q N tb lo hi (mv_rd tb lo hi s) → Q (.inl (some (.int r))) (n, sl, hc a' f0)) : mi_W (e + 112) 80 0 (mi_en 5 [.ref p]) [] (n, sl, hc a f0) Q := by
  rcases hs with ⟨hel, hfl, Z, rfl, h, hS, hok⟩ | ⟨x, rfl, hx, h1, h7⟩
  · refine cm_red hn h hel hfl hS hok (fun a' b' Z' hr f' k' e' g' s' o' => K a' _ f' (Or.inl ⟨e', g', Z', ?_, k', s', o'⟩)) (fun a' x r hr f' e' => K a' r f' (Or.inr ⟨x, ?_, e', (mv_red_le Z hr).1, (mv_red_le Z hr).2⟩))
    · unfold mv_rd
      dsimp only
      rw [hr]
    · unfold mv_rd
      dsimp only
      rw [hr]
  · exact cm_red0 hn hpo (by rw [hx]; exact of_17 h1 h7) (K a 0 cMf.re (Or.inr ⟨x, rfl, hx, h1, h7⟩))
theorem cm_insl (hn : 575 ≤ n) (hw : p = 41 ∧ wal = true ∨ p = 67 ∧ wal = false) (hip : ip = 35 ∨ ip = 55) (hmany : many ≤ 16) (hbd : ∀ j, mv_in (bd j).1 ∧ mv_in (bd j).2) : ∀ (t k : Nat) (a : mh_A) (Z : mv_Z), k + t = many → cM a p q N tb lo hi Z → a.I 7 p 6 = 0 → a.I 10 (p + 12) 4 = 0 → mv_ok Z.S → mz_ok tb N 100 0 Z.S.at → cBd a BN bd tb → a.I 6 ip 5 = Int32.ofNat many → (∀ j, j < many → cIn a ip j (ins j)) → (∀ a' l6, cMf p q a a' → cOut a' p q N tb lo hi (mv_ins tb bd wal lo hi ins t k Z) → mi_W (e + 113) 74 133 [some (.ref p), some (.ref qq), some (.ref ip), some (.long v), none, some (.long w), none, some (.int l6)] [] (n, sl, hc a' f0) Q) → mi_W (e + 113) 74 92 [some (.ref p), some (.ref qq), some (.ref ip), some (.long v), none, some (.long w), none, some (.int (Int32.ofNat k))] [] (n, sl, hc a f0) Q := by
  obtain ⟨hipo, hip5, -⟩ := ht6 hip
  intro t
  induction t with
  | zero =>
    intro k a Z hk h hel hfl hS hok hb hm hI K
    obtain ⟨hR, hqo, hq, hp68, hpo, hro, heo⟩ := h.R
    refine b_74_92 _ _ _ (by first | (exact hc_o (by first | assumption | (exact ⟨by decide, rfl⟩))) | assumption | (exact (hc_far (by omega)).trans (by assumption))) (by omega) (by first | rfl | assumption) ?_ ?_
    · intro z92
      exact K a _ cMf.re (Or.inl ⟨hel, hfl, Z, rfl, h, hS, hok⟩)
    · intro z92
      exact absurd ((i_le hm rfl (by omega) (by omega)).mpr (by omega)) z92
  | succ t ih =>
    intro k a Z hk h hel hfl hS hok hb hm hI K
    obtain ⟨hR, hqo, hq, hp68, hpo, hro, heo⟩ := h.R
    have hu : mv_ins tb bd wal lo hi ins (t + 1) k Z = (match mv_rd tb lo hi (mv_take tb bd wal lo hi (ins k) Z) with | .error e => .error e | .ok Z2 => mv_ins tb bd wal lo hi ins t (k + 1) Z2) := by
      show (match mv_take tb bd wal lo hi (ins k) Z with | .error e => (Except.error e : Except Nat mv_Z) | .ok Z1 => match mv_red tb lo hi 148 false Z1 with | .error e => Except.error e | .ok (_, Z2) => mv_ins tb bd wal lo hi ins t (k + 1) Z2) = _
      unfold mv_rd
      cases mv_take tb bd wal lo hi (ins k) Z with
      | error x => rfl
      | ok Z1 =>
        dsimp only
        cases mv_red tb lo hi 148 false Z1 with
        | error x => rfl
        | ok o => rfl
    refine b_74_92 _ _ _ (by first | (exact hc_o (by first | assumption | (exact ⟨by decide, rfl⟩))) | assumption | (exact (hc_far (by omega)).trans (by assumption))) (by omega) (by first | rfl | assumption) ?_ ?_
    · intro z92
      exact absurd ((i_le hm rfl (by omega) (by omega)).mp z92) (by omega)
    · intro z92
      refine b_74_101 _ _ _ ?_ ?_
      · intro z101
        exact absurd ((i_le (a := 16) rfl rfl (by omega) (by omega)).mp z101) (by omega)
      · intro z101
        refine b_74_108 _ _ _ (by first | (exact hc_o (by first | assumption | (exact ⟨by decide, rfl⟩))) | assumption | (exact (hc_far (by omega)).trans (by assumption))) (by omega) (by first | rfl | assumption) ?_ ?_
        · intro z108
          exact absurd hel z108
        · intro z108
          refine b_74_115 _ _ _ (by first | (exact hc_o (by first | assumption | (exact ⟨by decide, rfl⟩))) | assumption | (exact (hc_far (by omega)).trans (by assumption))) (by omega) ?_
          refine cm_take (e := e + 1) hn hw hip (by omega) h hel hfl hS hok hb (hI k (by omega)) (fun a1 f1 s1 => ?_)
          have s1' : cOut a1 p q N tb lo hi (mv_take tb bd wal lo hi (ins k) Z) := s1.elim (fun s => Or.inl ⟨s.1, s.2.1, s.2.2.elim (fun Z' z => ⟨Z', z.1, z.2, mv_take_ok hS hbd hok z.1⟩)⟩) (fun s => s.elim (fun x z => Or.inr ⟨x, z.1, z.2, mv_take_le z.1⟩))
          refine b_74_122 _ _ _ (by first | (exact hc_o (by first | assumption | (exact ⟨by decide, rfl⟩))) | assumption | (exact (hc_far (by omega)).trans (by assumption))) (by omega) ?_
          refine cm_rd (e := e) hn hpo s1' (fun a2 r2 f2 s2 => ?_)
          refine b_74_126 _ _ _ ?_
          have f12 := f1.trans f2
          rw [of_succ]
          rcases s2 with ⟨hel2, hfl2, Z2, hz2, h2, hS2, hok2⟩ | ⟨x, hx, hx6, hx1, hx7⟩
          · rw [hz2] at hu
            dsimp only at hu
            refine ih (k + 1) a2 Z2 (by omega) h2 hel2 hfl2 hS2 hok2 (hb.mf f12) (((f12.2 6 ip 5 (by omega) (by omega) (by omega)).1 (by omega) (by omega)).trans hm) (fun j hj => (hI j hj).mf f12) (fun a3 l6 f3 s3 => K a3 l6 (f12.trans f3) ?_)
            rw [hu]
            exact s3
          · rw [hx] at hu
            dsimp only at hu
            refine cm_92e hn hpo hipo (by rw [hx6]; exact of_17 hx1 hx7) (fun l6 => K a2 l6 f12 ?_)
            rw [hu]
            exact Or.inr ⟨x, rfl, hx6, hx1, hx7⟩
end
