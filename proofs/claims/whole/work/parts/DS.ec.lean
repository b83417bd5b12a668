/-! the first object: a transaction, its first half -/
/-- what a transaction that comes to an end leaves as it is -/
def cMw (p q : Nat) (a a' : mh_A) : Prop := (∀ c r, ¬ (c = 7 ∧ r = p) → ¬ (c = 10 ∧ r = p + 12) → a'.R c r = a.R c r) ∧ ∀ c r k, ¬ (c = 9 ∧ r = q) → ¬ (c = 8 ∧ r = p + 1) → ¬ c = 5 → ¬ (c = 10 ∧ r = p + 12) → ¬ (c = 7 ∧ r = p) → a'.I c r k = a.I c r k ∧ a'.L c r k = a.L c r k ∧ a'.AI c r k = a.AI c r k ∧ a'.AL c r k = a.AL c r k
def mv_r2 (tb : Nat → ms_N) (bd : Nat → Int64 × Int64) (wal : Bool) (many : Nat) (ins : Nat → mv_I) (lo hi : Int64) (Z : mv_Z) : Except Nat mv_Z := match mv_red tb lo hi 148 false Z with
  | .error e => .error e
  | .ok (b, Z1) => if many = 0 ∧ b = false then .error 5 else mv_ins tb bd wal lo hi ins many 0 Z1
/-- a transaction, and the wallets behind it -/
def mv_tx (tb : Nat → ms_N) (bd : Nat → Int64 × Int64) (many : Nat) (ins : Nat → mv_I) (from1 to1 : Int64) (S : mv_S) (w : Nat → Int64) : Except Nat (mv_Z × (Nat → Int64)) := match mv_run tb bd true many ins from1 to1 (mv_z0 S w) with
  | .error x => .error x
  | .ok Z => match mv_set Z.ps.2 Z.ps.1 0 Z.lf with
    | none => .error 6
    | some w' => .ok (Z, w')
section
variable {d e n sl N : Nat} {a a1 a2 : mh_A} {f0 : Nat → mi_C} {Q : (Option Value ⊕ Nat) → mi_H → Prop} {p q qq ip many BN : Nat} {tb : Nat → ms_N} {lo hi v w : Int64} {Z : mv_Z} {bd : Nat → Int64 × Int64} {ins : Nat → mv_I} {wal : Bool} {l6 r : Int32} {o6 : Option Value}
theorem cMe.re : cMe p q a a := ⟨fun _ _ _ _ => rfl, fun _ _ _ _ _ _ _ _ => ⟨rfl, rfl, rfl, rfl⟩⟩
theorem cMe.of (h : cMf p q a a1) : cMe p q a a1 := ⟨fun c r _ _ => by rw [h.1], fun c r k h1 h2 h3 h4 h5 => ⟨(h.2 c r k h1 h2 h3).1 (fun e => h4 ⟨e.1, e.2.1⟩) (fun e => h5 ⟨e.1, e.2.1⟩), (h.2 c r k h1 h2 h3).2⟩⟩
theorem cMe.trans (h : cMe p q a a1) (h' : cMe p q a1 a2) : cMe p q a a2 := ⟨fun c r h1 h2 => (h'.1 c r h1 h2).trans (h.1 c r h1 h2), fun c r k h1 h2 h3 h4 h5 => ⟨(h'.2 c r k h1 h2 h3 h4 h5).1.trans (h.2 c r k h1 h2 h3 h4 h5).1, (h'.2 c r k h1 h2 h3 h4 h5).2.1.trans (h.2 c r k h1 h2 h3 h4 h5).2.1, (h'.2 c r k h1 h2 h3 h4 h5).2.2.1.trans (h.2 c r k h1 h2 h3 h4 h5).2.2.1, (h'.2 c r k h1 h2 h3 h4 h5).2.2.2.trans (h.2 c r k h1 h2 h3 h4 h5).2.2.2⟩⟩
theorem cMe.mw (h : cMe p q a a1) : cMw p q a a1 := ⟨h.1, fun c r k h1 h2 h3 h4 h5 => h.2 c r k h1 h2 (fun e => h3 e.1) h4 h5⟩
theorem cMw.sAL {k : Nat} {g : Nat → Int64} (h : cMw p q a a1) : cMw p q a (a1.sAL 5 32 k g) := ⟨h.1, fun c r k' h1 h2 h3 h4 h5 => ⟨(h.2 c r k' h1 h2 h3 h4 h5).1, (h.2 c r k' h1 h2 h3 h4 h5).2.1, (h.2 c r k' h1 h2 h3 h4 h5).2.2.1, (mh_u_x (fun e => h3 e.1)).trans (h.2 c r k' h1 h2 h3 h4 h5).2.2.2⟩⟩
theorem mh_v_x {α : Type} {X : Nat → Nat → α} {v : α} {c r c' r' : Nat} (h : ¬ (c' = c ∧ r' = r)) : mh_v X c r v c' r' = X c' r' := by
  unfold mh_v
  split
  · split
    · exact absurd ⟨by assumption, by assumption⟩ h
    · rfl
  · rfl
theorem cMe.en : cMe p q a (cEn a p q lo hi) := by
  refine ⟨fun c r h1 h2 => ?_, fun c r k h1 h2 h3 h4 h5 => ⟨?_, ?_, rfl, rfl⟩⟩
  · show mh_v (mh_v a.R 7 p q) 10 (p + 12) q c r = a.R c r
    rw [mh_v_x (fun e => h2 e), mh_v_x (fun e => h1 e)]
  · show mh_u a.I 10 (p + 12) 4 0 c r k = a.I c r k
    rw [mh_u_x (fun e => h4 ⟨e.1, e.2.1⟩)]
  · show mh_u (mh_u (mh_u (mh_u (mh_u a.L 7 p 4 lo) 7 p 5 hi) 9 q 1 lo) 10 (p + 12) 2 lo) 10 (p + 12) 3 hi c r k = a.L c r k
    rw [mh_u_x (fun e => h4 ⟨e.1, e.2.1⟩), mh_u_x (fun e => h4 ⟨e.1, e.2.1⟩), mh_u_x (fun e => h1 ⟨e.1, e.2.1⟩), mh_u_x (fun e => h5 ⟨e.1, e.2.1⟩), mh_u_x (fun e => h5 ⟨e.1, e.2.1⟩)]
theorem cIn.me {k : Nat} {I : mv_I} (h : cIn a ip k I) (f : cMe p q a a1) : cIn a1 ip k I := by
  have e1 : ∀ j, a1.AI 6 ip j = a.AI 6 ip j := fun j => (f.2 6 ip j (by omega) (by omega) (by omega) (by omega) (by omega)).2.2.1
  have e2 : a1.AL 6 ip 4 = a.AL 6 ip 4 := (f.2 6 ip 4 (by omega) (by omega) (by omega) (by omega) (by omega)).2.2.2
  unfold cIn
  rw [e1, e1, e1, e1, e2]
  exact h
theorem cBd.me (h : cBd a BN bd tb) (f : cMe p q a a1) : cBd a1 BN bd tb := by
  have e2 : a1.AL 2 3 10 = a.AL 2 3 10 := (f.2 2 3 10 (by omega) (by omega) (by omega) (by omega) (by omega)).2.2.2
  unfold cBd
  rw [e2]
  exact h
theorem cj_maxl (K : Q (.inl (some (.long (mv_lo v w)))) (n, sl, hc a f0)) : mi_W d 76 0 (mi_en 4 [.long v, .long w]) [] (n, sl, hc a f0) Q := by
  unfold mv_lo at K
  refine b_76_0 _ _ _ ?_ ?_
  · intro z0
    rw [if_pos (lg_lt.mp z0)] at K
    refine b_76_10 _ _ _ ?_
    refine b_76_11 _ _ _ ?_
    exact K
  · intro z0
    rw [if_neg (fun h => z0 (lg_lt.mpr h))] at K
    refine b_76_6 _ _ _ ?_
    refine b_76_11 _ _ _ ?_
    exact K
theorem cm_63e (hn : 575 ≤ n) (hpo : mh_o p 7) (hipo : mh_o ip 6) (he : ¬ a.I 7 p 6 = 0) (K : ∀ l6, mi_W d 74 133 [some (.ref p), some (.ref qq), some (.ref ip), some (.long v), none, some (.long w), none, some (.int l6)] [] (n, sl, hc a f0) Q) : mi_W d 74 63 [some (.ref p), some (.ref qq), some (.ref ip), some (.long v), none, some (.long w), none, o6] [.int r] (n, sl, hc a f0) Q := by
  have hp5 := hpo.1
  refine b_74_63 _ _ _ (by first | (exact hc_o (by first | assumption | (exact ⟨by decide, rfl⟩))) | assumption | (exact (hc_far (by omega)).trans (by assumption))) (by omega) (by first | rfl | assumption) ?_ ?_
  · intro z63
    refine b_74_89 _ _ _ ?_
    exact cm_92e (k := 0) hn hpo hipo he K
  · intro z63
    exact absurd (Classical.not_not.mp z63) he
theorem cm_34e {x : Int32} (hn : 575 ≤ n) (hpo : mh_o p 7) (hipo : mh_o ip 6) (hx : ¬ x = 0) (K : ∀ l6, mi_W d 74 133 [some (.ref p), some (.ref qq), some (.ref ip), some (.long v), none, some (.long w), none, some (.int l6)] [] (n, sl, hc (a.sI 7 p 6 x) f0) Q) : mi_W d 74 34 [some (.ref p), some (.ref qq), some (.ref ip), some (.long v), none, some (.long w), none, o6] [.int x, .ref p] (n, sl, hc a f0) Q := by
  have hp5 := hpo.1
  refine b_74_34 _ _ _ (by first | (exact hc_o (by first | assumption | (exact ⟨by decide, rfl⟩))) | assumption | (exact (hc_far (by omega)).trans (by assumption))) (by omega) (Nat.le_of_ble_eq_true rfl) (by first | (exact (congrFun (hw_I (by first | assumption | (exact ⟨by decide, rfl⟩)) (by decide)) _).trans (hc_o (by first | assumption | (exact ⟨by decide, rfl⟩)))) | assumption | (exact (hc_far (by omega)).trans (by assumption))) (by omega) (by first | rfl | assumption) ?_ ?_
  · intro z34
    refine hw_W (hw_I (by first | assumption | (exact ⟨by decide, rfl⟩)) (by decide)) ?_
    refine b_74_89 _ _ _ ?_
    exact cm_92e (k := 0) hn hpo hipo (by rw [I_at]; exact hx) K
  · intro z34
    exact absurd (I_at.symm.trans (Classical.not_not.mp z34)) hx
theorem cm_63o (hn : 575 ≤ n) (hw : p = 41 ∧ wal = true ∨ p = 67 ∧ wal = false) (hip : ip = 35 ∨ ip = 55) (hmany : many ≤ 16) (hbd : ∀ j, mv_in (bd j).1 ∧ mv_in (bd j).2) {b : Bool} (h : cM a p q N tb lo hi Z) (hel : a.I 7 p 6 = 0) (hfl : a.I 10 (p + 12) 4 = 0) (hS : mv_ok Z.S) (hok : mz_ok tb N 100 0 Z.S.at) (hb : cBd a BN bd tb) (hm : a.I 6 ip 5 = Int32.ofNat many) (hI : ∀ j, j < many → cIn a ip j (ins j)) (K : ∀ a' l6, cMf p q a a' → cOut a' p q N tb lo hi (if many = 0 ∧ b = false then .error 5 else mv_ins tb bd wal lo hi ins many 0 Z) → mi_W (e + 113) 74 133 [some (.ref p), some (.ref qq), some (.ref ip), some (.long v), none, some (.long w), none, some (.int l6)] [] (n, sl, hc a' f0) Q) : mi_W (e + 113) 74 63 [some (.ref p), some (.ref qq), some (.ref ip), some (.long v), none, some (.long w), none, o6] [.int (cfl b)] (n, sl, hc a f0) Q := by
  obtain ⟨hipo, hip5, -⟩ := ht6 hip
  obtain ⟨hR, hqo, hq, hp68, hpo, hro, heo⟩ := h.R
  have hc01 := cfl_01 (b := b)
  have hI0 : a.I 6 ip 5 = 0 ↔ many = 0 := by
    rw [hm]
    exact of_eq (b := 0) (by omega) (by omega)
  have IN : ¬ (many = 0 ∧ b = false) → mi_W (e + 113) 74 92 [some (.ref p), some (.ref qq), some (.ref ip), some (.long v), none, some (.long w), none, some (.int 0)] [] (n, sl, hc a f0) Q := fun hne => cm_insl hn hw hip hmany hbd many 0 a Z (by omega) h hel hfl hS hok hb hm hI (fun a' l6 f' s' => K a' l6 f' (by rw [if_neg hne]; exact s'))
  refine b_74_63 _ _ _ (by first | (exact hc_o (by first | assumption | (exact ⟨by decide, rfl⟩))) | assumption | (exact (hc_far (by omega)).trans (by assumption))) (by omega) (by first | rfl | assumption) ?_ ?_
  · intro z63
    exact absurd hel z63
  · intro z63
    refine b_74_72 _ _ _ (by first | (exact hc_o (by first | assumption | (exact ⟨by decide, rfl⟩))) | assumption | (exact (hc_far (by omega)).trans (by assumption))) (by omega) (by first | rfl | assumption) ?_ ?_
    · intro z72
      refine b_74_89 _ _ _ ?_
      first | exact IN (fun hh => z72 (hI0.mpr hh.1)) | exact IN (fun hh => z79 (by rw [hh.2]; rfl)) | skip
      all_goals exact cm_92e (k := 0) hn hpo hipo (by rw [I_at]; decide) (fun l6 => K _ l6 (cMf.re.sI (Or.inr (Or.inr (Or.inr ⟨rfl, rfl, rfl⟩)))) (Or.inr ⟨5, if_pos ⟨hI0.mp (Classical.not_not.mp z72), by cases b with | false => rfl | true => exact absurd (Classical.not_not.mp z79) (by decide)⟩, I_at, by decide, by decide⟩))
    · intro z72
      refine b_74_79 _ _ _ ?_ ?_
      · intro z79
        refine b_74_89 _ _ _ ?_
        first | exact IN (fun hh => z72 (hI0.mpr hh.1)) | exact IN (fun hh => z79 (by rw [hh.2]; rfl)) | skip
        all_goals exact cm_92e (k := 0) hn hpo hipo (by rw [I_at]; decide) (fun l6 => K _ l6 (cMf.re.sI (Or.inr (Or.inr (Or.inr ⟨rfl, rfl, rfl⟩)))) (Or.inr ⟨5, if_pos ⟨hI0.mp (Classical.not_not.mp z72), by cases b with | false => rfl | true => exact absurd (Classical.not_not.mp z79) (by decide)⟩, I_at, by decide, by decide⟩))
      · intro z79
        refine b_74_84 _ _ _ (by first | (exact hc_o (by first | assumption | (exact ⟨by decide, rfl⟩))) | assumption | (exact (hc_far (by omega)).trans (by assumption))) (by omega) (Nat.le_of_ble_eq_true rfl) ?_
        refine hw_W (hw_I (by first | assumption | (exact ⟨by decide, rfl⟩)) (by decide)) ?_
        refine b_74_89 _ _ _ ?_
        first | exact IN (fun hh => z72 (hI0.mpr hh.1)) | exact IN (fun hh => z79 (by rw [hh.2]; rfl)) | skip
        all_goals exact cm_92e (k := 0) hn hpo hipo (by rw [I_at]; decide) (fun l6 => K _ l6 (cMf.re.sI (Or.inr (Or.inr (Or.inr ⟨rfl, rfl, rfl⟩)))) (Or.inr ⟨5, if_pos ⟨hI0.mp (Classical.not_not.mp z72), by cases b with | false => rfl | true => exact absurd (Classical.not_not.mp z79) (by decide)⟩, I_at, by decide, by decide⟩))
theorem cm_59 (hn : 575 ≤ n) (hw : p = 41 ∧ wal = true ∨ p = 67 ∧ wal = false) (hip : ip = 35 ∨ ip = 55) (hmany : many ≤ 16) (hbd : ∀ j, mv_in (bd j).1 ∧ mv_in (bd j).2) (h : cM a p q N tb lo hi Z) (hel : a.I 7 p 6 = 0) (hfl : a.I 10 (p + 12) 4 = 0) (hS : mv_ok Z.S) (hok : mz_ok tb N 100 0 Z.S.at) (hb : cBd a BN bd tb) (hm : a.I 6 ip 5 = Int32.ofNat many) (hI : ∀ j, j < many → cIn a ip j (ins j)) (K : ∀ a' l6, cMf p q a a' → cOut a' p q N tb lo hi (mv_r2 tb bd wal many ins lo hi Z) → mi_W (e + 113) 74 133 [some (.ref p), some (.ref qq), some (.ref ip), some (.long v), none, some (.long w), none, some (.int l6)] [] (n, sl, hc a' f0) Q) : mi_W (e + 113) 74 59 [some (.ref p), some (.ref qq), some (.ref ip), some (.long v), none, some (.long w), none, o6] [] (n, sl, hc a f0) Q := by
  obtain ⟨hipo, hip5, -⟩ := ht6 hip
  obtain ⟨hR, hqo, hq, hp68, hpo, hro, heo⟩ := h.R
  unfold mv_r2 at K
  refine b_74_59 _ _ _ (by first | (exact hc_o (by first | assumption | (exact ⟨by decide, rfl⟩))) | assumption | (exact (hc_far (by omega)).trans (by assumption))) (by omega) ?_
  refine cm_red (e := e) hn h hel hfl hS hok (fun a1 b1 Z1 hr f1 k1 e1 g1 s1 o1 => ?_) (fun a1 x r hr f1 e1 => ?_)
  · first | exact cm_63e hn hpo hipo (by rw [e1]; exact of_17 (mv_red_le Z hr).1 (mv_red_le Z hr).2) (fun l6 => K a1 l6 f1 (by rw [hr]; exact Or.inr ⟨x, rfl, e1, (mv_red_le Z hr).1, (mv_red_le Z hr).2⟩)) | skip
    all_goals exact cm_63o hn hw hip hmany hbd k1 e1 g1 s1 o1 (hb.mf f1) (((f1.2 6 ip 5 (by omega) (by omega) (by omega)).1 (by omega) (by omega)).trans hm) (fun j hj => (hI j hj).mf f1) (fun a2 l6 f2 s2 => K a2 l6 (f1.trans f2) (by rw [hr]; exact s2))
  · first | exact cm_63e hn hpo hipo (by rw [e1]; exact of_17 (mv_red_le Z hr).1 (mv_red_le Z hr).2) (fun l6 => K a1 l6 f1 (by rw [hr]; exact Or.inr ⟨x, rfl, e1, (mv_red_le Z hr).1, (mv_red_le Z hr).2⟩)) | skip
    all_goals exact cm_63o hn hw hip hmany hbd k1 e1 g1 s1 o1 (hb.mf f1) (((f1.2 6 ip 5 (by omega) (by omega) (by omega)).1 (by omega) (by omega)).trans hm) (fun j hj => (hI j hj).mf f1) (fun a2 l6 f2 s2 => K a2 l6 (f1.trans f2) (by rw [hr]; exact s2))
end
