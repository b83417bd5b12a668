/-! the first object: findStepFor -/
/-- what finding a step leaves as it is -/
def cFd (l : Nat) (a a' : mh_A) : Prop := (∀ c r, ¬ (c = 10 ∧ r = 496) → a'.R c r = a.R c r) ∧ (∀ c r k, ¬ (c = 10 ∧ r = 496) → ¬ (c = 11 ∧ r = 54) → a'.I c r k = a.I c r k ∧ a'.L c r k = a.L c r k ∧ a'.AI c r k = a.AI c r k ∧ a'.AL c r k = a.AL c r k) ∧ (∀ k, a'.I 11 54 k = a.I 11 54 k) ∧ ∀ k i, ¬ i = l → a'.AI 11 54 k i = a.AI 11 54 k i ∧ a'.AL 11 54 k i = a.AL 11 54 k i
/-- what is still to be tried of the actions: t at most, from m on, but for j numbers -/
def cEnc (a : mh_A) (l N : Nat) (tb : Nat → ms_N) (bd : Nat → Int64 × Int64) (t m j : Nat) : Prop := (t ≤ 8 ∧ (∃ pm, mz_ls tb N (mz_ok tb N 99) t pm m) ∧ mo_nl tb bd (mo_NB tb bd) t m) ∧ a.AI 11 54 5 l = mz_lk m ∧ a.AI 11 54 6 l = Int32.ofNat j ∧ (j = 0 ∨ (¬ m = 0 ∧ (tb m).1 = 8 ∧ j ≤ ma_tt bd (tb m).2.2.2.2.2.2.2.2.1 (tb m).2.2.2.2.2.2.2.2.2))
section
variable {d e n sl N BN : Nat} {a a0 a1 a2 : mh_A} {f0 : Nat → mi_C} {Q : (Option Value ⊕ Nat) → mi_H → Prop} {p q k l m t j c r : Nat} {tb : Nat → ms_N} {bd : Nat → Int64 × Int64} {S : mv_S} {v : Int64} {gl : Nat → Option Nat} {s : ma_P}
theorem cFd.re : cFd l a a := ⟨fun _ _ _ => rfl, fun _ _ _ _ _ => ⟨rfl, rfl, rfl, rfl⟩, fun _ => rfl, fun _ _ _ => ⟨rfl, rfl⟩⟩
theorem cFd.trans (h : cFd l a a1) (h' : cFd l a1 a2) : cFd l a a2 := ⟨fun c r h1 => (h'.1 c r h1).trans (h.1 c r h1), fun c r k h1 h2 => ⟨(h'.2.1 c r k h1 h2).1.trans (h.2.1 c r k h1 h2).1, (h'.2.1 c r k h1 h2).2.1.trans (h.2.1 c r k h1 h2).2.1, (h'.2.1 c r k h1 h2).2.2.1.trans (h.2.1 c r k h1 h2).2.2.1, (h'.2.1 c r k h1 h2).2.2.2.trans (h.2.1 c r k h1 h2).2.2.2⟩, fun k => (h'.2.2.1 k).trans (h.2.2.1 k), fun k i hi => ⟨(h'.2.2.2 k i hi).1.trans (h.2.2.2 k i hi).1, (h'.2.2.2 k i hi).2.trans (h.2.2.2 k i hi).2⟩⟩
theorem cFd.sAI {x : Int32} (h : cFd l a0 a) : cFd l a0 (a.sAI 11 54 k (upd (a.AI 11 54 k) l x)) := by
  refine ⟨h.1, fun c r k' h1 h2 => ⟨(h.2.1 c r k' h1 h2).1, (h.2.1 c r k' h1 h2).2.1, (mh_u_x (fun e => h2 ⟨e.1, e.2.1⟩)).trans (h.2.1 c r k' h1 h2).2.2.1, (h.2.1 c r k' h1 h2).2.2.2⟩, h.2.2.1, fun k' i hi => ⟨?_, (h.2.2.2 k' i hi).2⟩⟩
  show mh_u a.AI 11 54 k (upd (a.AI 11 54 k) l x) 11 54 k' i = _
  by_cases e : k' = k
  · rw [e, mh_u_at, upd_ne hi, ← e]
    exact (h.2.2.2 k' i hi).1
  · rw [mh_u_k e]
    exact (h.2.2.2 k' i hi).1
theorem cFd.sAL {x : Int64} (h : cFd l a0 a) : cFd l a0 (a.sAL 11 54 k (vp_updL (a.AL 11 54 k) l x)) := by
  refine ⟨h.1, fun c r k' h1 h2 => ⟨(h.2.1 c r k' h1 h2).1, (h.2.1 c r k' h1 h2).2.1, (h.2.1 c r k' h1 h2).2.2.1, (mh_u_x (fun e => h2 ⟨e.1, e.2.1⟩)).trans (h.2.1 c r k' h1 h2).2.2.2⟩, h.2.2.1, fun k' i hi => ⟨(h.2.2.2 k' i hi).1, ?_⟩⟩
  show mh_u a.AL 11 54 k (vp_updL (a.AL 11 54 k) l x) 11 54 k' i = _
  by_cases e : k' = k
  · rw [e, mh_u_at, upL_ne hi, ← e]
    exact (h.2.2.2 k' i hi).2
  · rw [mh_u_k e]
    exact (h.2.2.2 k' i hi).2
theorem cFd.fl {x : Int32} (h : cFd l a0 a) : cFd l a0 (a.sI 10 496 k x) := ⟨h.1, fun c r k' h1 h2 => ⟨(mh_u_x (fun e => h1 ⟨e.1, e.2.1⟩)).trans (h.2.1 c r k' h1 h2).1, (h.2.1 c r k' h1 h2).2⟩, fun k' => h.2.2.1 k', h.2.2.2⟩
theorem cFd.cvL {b : Bool} (h : cFd l a0 a) : cFd l a0 (cvL 496 a b) := by
  cases b with
  | true => exact h.fl
  | false => exact h
def cLk (a : mh_A) (q : Nat) (T : Int64) : mh_A := (((a.sR 10 496 q).sL 10 496 2 T).sL 10 496 3 T).sI 10 496 4 0
theorem cFd.lk {T : Int64} (h : cFd l a0 a) : cFd l a0 (cLk a q T) := ⟨fun c r h1 => (mh_v_x (fun e => h1 e)).trans (h.1 c r h1), fun c r k' h1 h2 => ⟨(mh_u_x (fun e => h1 ⟨e.1, e.2.1⟩)).trans (h.2.1 c r k' h1 h2).1, (mh_u_x (fun e => h1 ⟨e.1, e.2.1⟩)).trans ((mh_u_x (fun e => h1 ⟨e.1, e.2.1⟩)).trans (h.2.1 c r k' h1 h2).2.1), (h.2.1 c r k' h1 h2).2.2⟩, fun k' => h.2.2.1 k', h.2.2.2⟩
theorem cTb.fd (h : cTb a N BN tb bd) (f : cFd l a a1) : cTb a1 N BN tb bd := by
  obtain ⟨⟨⟨h1, h2⟩, h3, h4⟩, h5, h6⟩ := h
  have fz := fun k => f.2.1 2 3 k (by omega) (by omega)
  refine ⟨⟨⟨by rw [(fz 11).1]; exact h1, h2⟩, h3.to (fun m _ _ => ⟨fun k _ => by rw [(fz k).2.2.1], by rw [(fz 9).2.2.2]⟩) (fun _ _ _ => rfl), h4⟩, ?_, h6⟩
  unfold cBd
  rw [(fz 10).2.2.2]
  exact h5
theorem cSt.fd {q : Nat} (h : cSt a q S) (f : cFd l a a1) : cSt a1 q S := by
  have fz := fun k => f.2.1 9 q k (by omega) (by omega)
  unfold cSt
  rw [(fz 0).1, (fz 5).1, (fz 6).1, (fz 1).2.1, (fz 2).2.2.2, (fz 3).2.2.2, (fz 4).2.2.2]
  exact h
theorem cLk_rk (hs : cSt a q S) (hT : cTb a N BN tb bd) (hS : mv_ok S) : cRk (cLk a q S.tm) 496 N tb S S.tm S.tm := by
  have f : cFd 0 a (cLk a q S.tm) := cFd.re.lk
  have hT' := hT.fd f
  exact ⟨⟨by decide, rfl⟩, by show cSt _ (mh_v a.R 10 496 q 10 496) S; rw [mh_v_at]; exact hs.fd f, rfl, rfl, rfl, hT'.1.1, hT'.1.2.1, hS, hT'.1.2.2⟩
theorem of_sub1 (j : Nat) : Int32.ofNat (j + 1) - 1 = Int32.ofNat j := by
  rw [← of_succ, Int32.add_sub_cancel]
theorem ma_cl_s (h : j < t) {M F : Nat} : ma_cl bd m M F (t - j) j = (2, ma_at bd M F j, m, false) :: ma_cl bd m M F (t - (j + 1)) (j + 1) := by
  obtain ⟨i, hi⟩ : ∃ i, t - j = i + 1 := ⟨t - j - 1, by omega⟩
  have : t - (j + 1) = i := by omega
  rw [hi, this]
  rfl
theorem ma_as_s {R : mv_R} (h : ¬ m = 0) : ma_as tb bd R (t + 1) m j = ma_ac bd R m j (tb m) ++ ma_as tb bd R t (tb m).2.2.2.2.2.2.2.1 0 := if_neg h
section
variable {A B D x y z M F : Nat} {u w : Int64} {R : mv_R}
theorem ma_ac_7n (h : R.1 x = none) : ma_ac bd R m j (7, A, B, D, u, x, y, z, M, F) = [(1, 0, m, true)] := by
  unfold ma_ac
  dsimp only
  rw [if_pos rfl, h]
theorem ma_ac_7s (h : R.1 x = some w) : ma_ac bd R m j (7, A, B, D, u, x, y, z, M, F) = [(1, w, m, false)] := by
  unfold ma_ac
  dsimp only
  rw [if_pos rfl, h]
theorem ma_ac_8 : ma_ac bd R m j (8, A, B, D, u, x, y, z, M, F) = ma_cl bd m M F (ma_tt bd M F - j) j := by
  unfold ma_ac
  dsimp only
  rw [if_neg (by decide), if_pos rfl]
theorem ma_ac_9n (h : R.2 x = none) : ma_ac bd R m j (9, A, B, D, u, x, y, z, M, F) = [(3, 0, m, true)] := by
  unfold ma_ac
  dsimp only
  rw [if_neg (by decide), if_neg (by decide), h]
theorem ma_ac_9t (h : R.2 x = some true) : ma_ac bd R m j (9, A, B, D, u, x, y, z, M, F) = [(3, 0, m, false)] := by
  unfold ma_ac
  dsimp only
  rw [if_neg (by decide), if_neg (by decide), h]
theorem ma_ac_9f (h : R.2 x = some false) : ma_ac bd R m j (9, A, B, D, u, x, y, z, M, F) = [] := by
  unfold ma_ac
  dsimp only
  rw [if_neg (by decide), if_neg (by decide), h]
end
theorem set_5 {g7 g9 : Nat → Int32} {g8 : Nat → Int64} : (((a.sAI 11 54 7 g7).sAL 11 54 8 g8).sAI 11 54 9 g9).AI 11 54 5 = a.AI 11 54 5 := rfl
theorem set_6 {g7 g9 : Nat → Int32} {g8 : Nat → Int64} : (((a.sAI 11 54 7 g7).sAL 11 54 8 g8).sAI 11 54 9 g9).AI 11 54 6 = a.AI 11 54 6 := rfl
/-- behind a setStep -/
theorem cStp_set {kd nd : Nat} {b : Bool} {w : Int64} (h4 : kd ≤ 4) (hw : ¬ (kd = 1 ∧ b = true) → w = v) (hf : kd = 1 → a.I 10 496 4 = cfl b) : cStp (((a.sAI 11 54 7 (upd (a.AI 11 54 7) l (Int32.ofNat kd))).sAL 11 54 8 (vp_updL (a.AL 11 54 8) l w)).sAI 11 54 9 (upd (a.AI 11 54 9) l (mz_lk nd))) l (kd, v, nd, b) := by
  refine ⟨⟨?_, h4⟩, ?_, fun h => ?_, hf⟩
  · show upd (a.AI 11 54 7) l (Int32.ofNat kd) l = _
    rw [upd_at]
  · show upd (a.AI 11 54 9) l (mz_lk nd) l = _
    rw [upd_at]
  · show vp_updL (a.AL 11 54 8) l w l = v
    rw [upL_at]
    exact hw h
theorem ca_ff7 {A B D x y z M F : Nat} {u : Int64} (hn : 575 ≤ n) (hLv : cLv f0 gl) (hl : l < 104) (hs : cSt a (80 + 4 * l) S) (hT : cTb a N BN tb bd) (hS : mv_ok S) (hm0 : ¬ m = 0) (hls : mz_ls tb N (mz_ok tb N 99) (t + 1) p m) (hnl : mo_nl tb bd (mo_NB tb bd) (t + 1) m) (ht8 : t + 1 ≤ 8) (h5 : a.AI 11 54 5 l = mz_lk m) (h6 : a.AI 11 54 6 l = Int32.ofNat j) (hj : j = 0 ∨ ((tb m).1 = 8 ∧ j ≤ ma_tt bd (tb m).2.2.2.2.2.2.2.2.1 (tb m).2.2.2.2.2.2.2.2.2)) (hcm : tb m = (7, A, B, D, u, x, y, z, M, F)) (K1 : ∀ a' s t' m' j', t' + 1 ≤ 9 → cEnc a' l N tb bd t' m' j' → ma_as tb bd (mv_E tb S S.tm S.tm 100) (t + 1) m j = s :: ma_as tb bd (mv_E tb S S.tm S.tm 100) t' m' j' → cStp a' l s → ¬ s.2.2.1 = 0 → mz_a tb N s.2.2.1 → cFd l a a' → Q (.inl (some (.int 1))) (n, sl, hc a' f0)) (K0 : ∀ a', cEnc a' l N tb bd t z 0 → ma_as tb bd (mv_E tb S S.tm S.tm 100) (t + 1) m j = ma_as tb bd (mv_E tb S S.tm S.tm 100) t z 0 → cFd l a a' → Q (.inl (some (.int 0))) (n, sl, hc a' f0)) : mi_W (e + 104) 127 0 (mi_en 5 [.ref 54, .int (Int32.ofNat l), .int (Int32.ofNat m)]) [] (n, sl, hc a f0) Q := by
  have hlv := hLv.at
  have hgl := hLv.2
  have ho1 := lv_o ⟨l, hl⟩
  dsimp only at ho1
  have ho15 := ho1.1
  have hro : mh_o 496 10 := ⟨by decide, rfl⟩
  have hix := ix_of (w := l) (m := 104) (by omega) (by omega)
  have hls' : m = 0 ∨ _ := hls
  obtain ⟨hpm, hmN, hso, had, hxo, hyo, hfm, hlz⟩ := hls'.resolve_left hm0
  have hnl' : m = 0 ∨ _ := hnl
  obtain ⟨hn16, hnb, hnz⟩ := hnl'.resolve_left hm0
  have ha : mz_a tb N m := ⟨hmN, hso, had, fun h => (hxo h).2, hyo.2⟩
  have hN8 := hT.1.1.2
  have hixm := ix_of (w := m) (m := 800) (by omega) (by omega)
  have htm : a.L 9 (80 + 4 * l) 1 = S.tm := hs.2.2.1
  have hrow := (hT.1.2.1 m (Nat.zero_le _) hmN).1
  have hrow0 := hrow
  rw [hcm] at hrow hn16 hxo hlz hnz hj
  dsimp only at hn16 hxo hlz hnz hj
  have h0 : a.AI 2 3 0 m = 8 := hrow.1 0 (by decide) (by decide)
  have h3 : a.AI 2 3 3 m = mz_lk z := hrow.1 3 (by decide) (by decide)
  have eas := ma_as_s (bd := bd) (t := t) (j := j) (R := mv_E tb S S.tm S.tm 100) (tb := tb) hm0
  rw [hcm] at eas
  dsimp only at eas
  have fL : cFd l a (cLk a (80 + 4 * l) S.tm) := cFd.re.lk
  generalize hLk : cLk a (80 + 4 * l) S.tm = aL at *
  have g0 : aL.AI 2 3 0 m = 8 := by rw [(fL.2.1 2 3 0 (by omega) (by omega)).2.2.1]; exact h0
  have g3 : aL.AI 2 3 3 m = mz_lk z := by rw [(fL.2.1 2 3 3 (by omega) (by omega)).2.2.1]; exact h3
  have g6 : aL.AI 11 54 6 l = Int32.ofNat j := by rw [← hLk]; exact h6
  have h1 : a.AI 2 3 1 m = Int32.ofNat x := hrow.1 1 (by decide) (by decide)
  have g1 : aL.AI 2 3 1 m = Int32.ofNat x := by rw [(fL.2.1 2 3 1 (by omega) (by omega)).2.2.1]; exact h1
  have hj0 : j = 0 := hj.elim (fun h => h) (fun h => absurd h.1 (by decide))
  have hxk : mz_ok tb N 100 1 x := mz_dn (hxo (by decide)).2
  have fX : cFd l a ((aL.sAI 11 54 6 (upd (aL.AI 11 54 6) l 0)).sAI 11 54 5 (upd (aL.AI 11 54 5) l (mz_lk z))) := fL.sAI.sAI
  have X5 : ((aL.sAI 11 54 6 (upd (aL.AI 11 54 6) l 0)).sAI 11 54 5 (upd (aL.AI 11 54 5) l (mz_lk z))).AI 11 54 5 l = mz_lk z := by
    rw [AI_at, upd_at]
  have X6 : ((aL.sAI 11 54 6 (upd (aL.AI 11 54 6) l 0)).sAI 11 54 5 (upd (aL.AI 11 54 5) l (mz_lk z))).AI 11 54 6 l = Int32.ofNat 0 := by
    show upd (aL.AI 11 54 6) l 0 l = _
    rw [upd_at]
    rfl
  have rkX : cRk ((aL.sAI 11 54 6 (upd (aL.AI 11 54 6) l 0)).sAI 11 54 5 (upd (aL.AI 11 54 5) l (mz_lk z))) 496 N tb S S.tm S.tm := by
    have hT' := hT.fd fX
    exact ⟨⟨by decide, rfl⟩, by show cSt _ (aL.R 10 496) S; rw [← hLk]; show cSt _ (mh_v a.R 10 496 (80 + 4 * l) 10 496) S; rw [mh_v_at, hLk]; exact hs.fd fX, by rw [← hLk]; rfl, by rw [← hLk]; rfl, by rw [← hLk]; rfl, hT'.1.1, hT'.1.2.1, hS, hT'.1.2.2⟩
  generalize hX : (aL.sAI 11 54 6 (upd (aL.AI 11 54 6) l 0)).sAI 11 54 5 (upd (aL.AI 11 54 5) l (mz_lk z)) = X at *
  have x1 : X.AI 2 3 1 m = a.AI 2 3 1 m := congrFun (fX.2.1 2 3 1 (by omega) (by omega)).2.2.1 m
  have enc0 : ∀ a', a'.AI 11 54 5 = X.AI 11 54 5 → a'.AI 11 54 6 = X.AI 11 54 6 → cEnc a' l N tb bd t z 0 := by
    intro a' e5 e6
    exact ⟨⟨by omega, ⟨m, hlz⟩, hnz⟩, by rw [e5]; exact X5, by rw [e6]; exact X6, Or.inl rfl⟩
  refine b_127_0 _ _ _ _ _ _ _ (by first | (exact hc_o (by first | assumption | (exact ⟨by decide, rfl⟩))) | assumption | (exact (hc_far (by omega)).trans (by assumption))) (by omega) (by first | rfl | assumption) (by first | (exact hlv _) | assumption) (by omega) (by first | decide | assumption) (by first | assumption | (exact ix_of (by omega) (by omega)) | (exact ⟨by decide, rfl, by decide⟩)) (by first | (exact hgl _ (by omega)) | assumption) (by first | (exact hc_o (by first | assumption | (exact ⟨by decide, rfl⟩))) | assumption | (exact (hc_far (by omega)).trans (by assumption))) (by omega) (by first | rfl | assumption) (by first | (exact hc_o (by first | assumption | (exact ⟨by decide, rfl⟩))) | assumption | (exact (hc_far (by omega)).trans (by assumption))) (by omega) (by first | rfl | assumption) (by first | (exact hc_o (by first | assumption | (exact ⟨by decide, rfl⟩))) | assumption | (exact (hc_far (by omega)).trans (by assumption))) (by omega) (by first | rfl | assumption) (by first | (exact hc_o (by first | assumption | (exact ⟨by decide, rfl⟩))) | assumption | (exact (hc_far (by omega)).trans (by assumption))) (by omega) ?_
  rw [htm]
  refine cr_look (p := 496) hn hro ?_
  rw [show ((((a.sR 10 496 (80 + 4 * l)).sL 10 496 2 S.tm).sL 10 496 3 S.tm).sI 10 496 4 0) = aL from hLk]
  refine b_127_23 _ _ _ _ _ _ (by first | (exact hc_o (by first | assumption | (exact ⟨by decide, rfl⟩))) | assumption | (exact (hc_far (by omega)).trans (by assumption))) (by omega) (by first | rfl | assumption) (by first | (exact hc_o (by first | assumption | (exact ⟨by decide, rfl⟩))) | assumption | (exact (hc_far (by omega)).trans (by assumption))) (by omega) (by first | rfl | assumption) (by first | (exact hc_ai (by omega) (by first | assumption | (exact (ht9 (by assumption)).2.1) | (exact (ht9 (by assumption)).2.2.1) | (exact (ht9 (by assumption)).2.2.2) | rfl) (by decide)) | assumption | (exact (hc_far (by omega)).trans (by assumption))) (Or.inl (by omega)) (by first | assumption | (exact ix_of (by omega) (by omega)) | (exact ⟨by decide, rfl, by decide⟩)) ?_ ?_
  · intro z23
    rw [g0]
    refine b_127_92 _ _ _ _ _ _ _ _ _ _ _ _ (by first | (exact hc_o (by first | assumption | (exact ⟨by decide, rfl⟩))) | assumption | (exact (hc_far (by omega)).trans (by assumption))) (by omega) (by first | rfl | assumption) (by first | (exact hc_ai (by omega) (by first | assumption | (exact (ht9 (by assumption)).2.1) | (exact (ht9 (by assumption)).2.2.1) | (exact (ht9 (by assumption)).2.2.2) | rfl) (by decide)) | assumption | (exact (hc_far (by omega)).trans (by assumption))) (by omega) (by first | assumption | (exact ix_of (by omega) (by omega)) | (exact ⟨by decide, rfl, by decide⟩)) (by first | (exact (congrFun (hw_AI (by omega) (by first | assumption | (exact (ht9 (by assumption)).2.1) | (exact (ht9 (by assumption)).2.2.1) | (exact (ht9 (by assumption)).2.2.2) | rfl) (by decide)) _).trans (hc_o (by first | assumption | (exact ⟨by decide, rfl⟩)))) | assumption | (exact (hc_far (by omega)).trans (by assumption))) (by omega) (by first | rfl | assumption) (by first | (exact (congrFun (hw_AI (by omega) (by first | assumption | (exact (ht9 (by assumption)).2.1) | (exact (ht9 (by assumption)).2.2.1) | (exact (ht9 (by assumption)).2.2.2) | rfl) (by decide)) _).trans (hc_o (by first | assumption | (exact ⟨by decide, rfl⟩)))) | assumption | (exact (hc_far (by omega)).trans (by assumption))) (by omega) (by first | rfl | assumption) (by first | (exact (congrFun (hw_AI (by omega) (by first | assumption | (exact (ht9 (by assumption)).2.1) | (exact (ht9 (by assumption)).2.2.1) | (exact (ht9 (by assumption)).2.2.2) | rfl) (by decide)) _).trans (hc_o (by first | assumption | (exact ⟨by decide, rfl⟩)))) | assumption | (exact (hc_far (by omega)).trans (by assumption))) (by omega) (by first | rfl | assumption) (by first | (exact (congrFun (hw_AI (by omega) (by first | assumption | (exact (ht9 (by assumption)).2.1) | (exact (ht9 (by assumption)).2.2.1) | (exact (ht9 (by assumption)).2.2.2) | rfl) (by decide)) _).trans (hc_ai (by omega) (by first | assumption | (exact (ht9 (by assumption)).2.1) | (exact (ht9 (by assumption)).2.2.1) | (exact (ht9 (by assumption)).2.2.2) | rfl) (by decide))) | assumption | (exact (hc_far (by omega)).trans (by assumption))) (Or.inl (by omega)) (by first | assumption | (exact ix_of (by omega) (by omega)) | (exact ⟨by decide, rfl, by decide⟩)) (by first | (exact (congrFun (hw_AI (by omega) (by first | assumption | (exact (ht9 (by assumption)).2.1) | (exact (ht9 (by assumption)).2.2.1) | (exact (ht9 (by assumption)).2.2.2) | rfl) (by decide)) _).trans (hc_ai (by omega) (by first | assumption | (exact (ht9 (by assumption)).2.1) | (exact (ht9 (by assumption)).2.2.1) | (exact (ht9 (by assumption)).2.2.2) | rfl) (by decide))) | assumption | (exact (hc_far (by omega)).trans (by assumption))) (by omega) (by first | assumption | (exact ix_of (by omega) (by omega)) | (exact ⟨by decide, rfl, by decide⟩)) ?_ ?_
    · intro z92
      exact absurd rfl z92
    · intro z92
      refine hw_W (hw_2 (hw_AI (by omega) (by first | assumption | (exact (ht9 (by assumption)).2.1) | (exact (ht9 (by assumption)).2.2.1) | (exact (ht9 (by assumption)).2.2.2) | rfl) (by decide)) (hw_AI (by omega) (by first | assumption | (exact (ht9 (by assumption)).2.1) | (exact (ht9 (by assumption)).2.2.1) | (exact (ht9 (by assumption)).2.2.2) | rfl) (by decide))) ?_
      rw [show (aL.sAI 11 54 6 (upd (aL.AI 11 54 6) l 0)).AI 2 3 3 m = mz_lk z from g3, show (aL.sAI 11 54 6 (upd (aL.AI 11 54 6) l 0)).AI 11 54 5 = aL.AI 11 54 5 from rfl, hX]
      refine b_127_121 _ _ _ _ _ _ (by first | (exact hc_o (by first | assumption | (exact ⟨by decide, rfl⟩))) | assumption | (exact (hc_far (by omega)).trans (by assumption))) (by omega) (by first | rfl | assumption) (by first | (exact hc_o (by first | assumption | (exact ⟨by decide, rfl⟩))) | assumption | (exact (hc_far (by omega)).trans (by assumption))) (by omega) (by first | rfl | assumption) (by first | (exact hc_o (by first | assumption | (exact ⟨by decide, rfl⟩))) | assumption | (exact (hc_far (by omega)).trans (by assumption))) (by omega) (by first | rfl | assumption) (by first | (exact hc_ai (by omega) (by first | assumption | (exact (ht9 (by assumption)).2.1) | (exact (ht9 (by assumption)).2.2.1) | (exact (ht9 (by assumption)).2.2.2) | rfl) (by decide)) | assumption | (exact (hc_far (by omega)).trans (by assumption))) (Or.inl (by omega)) (by first | assumption | (exact ix_of (by omega) (by omega)) | (exact ⟨by decide, rfl, by decide⟩)) (by first | (exact hc_o (by first | assumption | (exact ⟨by decide, rfl⟩))) | assumption | (exact (hc_far (by omega)).trans (by assumption))) (by omega) ?_
      rw [x1, h1]
      have E7 := (cv_E (sl := sl) (f0 := f0) (a := X) (p := 496) (N := N) (tb := tb) (S := S) (lo := S.tm) (hi := S.tm) hn rkX 100 (by omega)).1
      refine E7 x 1 _ false _ (by omega) (by omega) hxk (fun r b c => ?_)
      refine b_127_141 _ _ _ (by first | (exact hc_o (by first | assumption | (exact ⟨by decide, rfl⟩))) | assumption | (exact (hc_far (by omega)).trans (by assumption))) (by omega) ?_
      rw [← mz_lk0 hm0]
      refine ca_set (kd := Int32.ofNat 1) hn hl ?_
      rw [mz_lk0 hm0]
      refine b_127_145 _ _ _ (by first | assumption | (exact mL_get (by decide)) | (rw [mL_len]; decide) | (simp only [mL_set]; exact mL_get (by decide)) | (simp only [mL_set, mL_len]; decide) | (exact va_eq) | (exact (va_ne (by omega)).trans (by assumption)) | (exact (va_ne (by omega)).trans va_eq) | (exact (va_ne (by omega)).trans ((va_ne (by omega)).trans (by assumption))) | (exact (va_ne (by omega)).trans ((va_ne (by omega)).trans ((va_ne (by omega)).trans (by assumption)))) | rfl | (exact Or.inl rfl) | (exact Or.inr rfl) | omega | (exact Nat.le_of_ble_eq_true rfl) | decide | (exact ⟨by decide, rfl, by decide⟩)) ?_
      rw [← mz_lk0 hm0]
      have hfl : ∀ b, (cvL 496 X b).I 10 496 4 = cfl b := fun b => by cases b with | true => exact I_at | false => exact rkX.2.2.2.2.1
      have fe := fX.cvL (b := b)
      have e56 : ∀ k, (cvL 496 X b).AI 11 54 k = X.AI 11 54 k := fun k => by cases b <;> rfl
      cases hv : (mv_E tb S S.tm S.tm 100).1 x with
      | none =>
        rw [hv] at c
        have hb : b = true := c
        subst hb
        refine K1 _ (1, 0, m, true) t z 0 (by omega) (enc0 _ (set_5.trans (e56 5)) (set_6.trans (e56 6))) ?_ (cStp_set (by decide) (fun h => absurd ⟨rfl, rfl⟩ h) (fun _ => hfl true)) hm0 ha fe.sAI.sAL.sAI
        rw [eas, ma_ac_7n hv]
        rfl
      | some w =>
        rw [hv] at c
        have hb : b = false ∧ r = w := c
        obtain ⟨rfl, rfl⟩ := hb
        refine K1 _ (1, r, m, false) t z 0 (by omega) (enc0 _ (set_5.trans (e56 5)) (set_6.trans (e56 6))) ?_ (cStp_set (by decide) (fun _ => rfl) (fun _ => hfl false)) hm0 ha fe.sAI.sAL.sAI
        rw [eas, ma_ac_7s hv]
        rfl
  · intro z23
    exact absurd (Classical.not_not.mp z23) (by rw [g0]; decide)
theorem ca_ff8 {A B D x y z M F : Nat} {u : Int64} (hn : 575 ≤ n) (hLv : cLv f0 gl) (hl : l < 104) (hs : cSt a (80 + 4 * l) S) (hT : cTb a N BN tb bd) (hS : mv_ok S) (hm0 : ¬ m = 0) (hls : mz_ls tb N (mz_ok tb N 99) (t + 1) p m) (hnl : mo_nl tb bd (mo_NB tb bd) (t + 1) m) (ht8 : t + 1 ≤ 8) (h5 : a.AI 11 54 5 l = mz_lk m) (h6 : a.AI 11 54 6 l = Int32.ofNat j) (hj : j = 0 ∨ ((tb m).1 = 8 ∧ j ≤ ma_tt bd (tb m).2.2.2.2.2.2.2.2.1 (tb m).2.2.2.2.2.2.2.2.2)) (hcm : tb m = (8, A, B, D, u, x, y, z, M, F)) (K1 : ∀ a' s t' m' j', t' + 1 ≤ 9 → cEnc a' l N tb bd t' m' j' → ma_as tb bd (mv_E tb S S.tm S.tm 100) (t + 1) m j = s :: ma_as tb bd (mv_E tb S S.tm S.tm 100) t' m' j' → cStp a' l s → ¬ s.2.2.1 = 0 → mz_a tb N s.2.2.1 → cFd l a a' → Q (.inl (some (.int 1))) (n, sl, hc a' f0)) (K0 : ∀ a', cEnc a' l N tb bd t z 0 → ma_as tb bd (mv_E tb S S.tm S.tm 100) (t + 1) m j = ma_as tb bd (mv_E tb S S.tm S.tm 100) t z 0 → cFd l a a' → Q (.inl (some (.int 0))) (n, sl, hc a' f0)) : mi_W (e + 104) 127 0 (mi_en 5 [.ref 54, .int (Int32.ofNat l), .int (Int32.ofNat m)]) [] (n, sl, hc a f0) Q := by
  have hlv := hLv.at
  have hgl := hLv.2
  have ho1 := lv_o ⟨l, hl⟩
  dsimp only at ho1
  have ho15 := ho1.1
  have hro : mh_o 496 10 := ⟨by decide, rfl⟩
  have hix := ix_of (w := l) (m := 104) (by omega) (by omega)
  have hls' : m = 0 ∨ _ := hls
  obtain ⟨hpm, hmN, hso, had, hxo, hyo, hfm, hlz⟩ := hls'.resolve_left hm0
  have hnl' : m = 0 ∨ _ := hnl
  obtain ⟨hn16, hnb, hnz⟩ := hnl'.resolve_left hm0
  have ha : mz_a tb N m := ⟨hmN, hso, had, fun h => (hxo h).2, hyo.2⟩
  have hN8 := hT.1.1.2
  have hixm := ix_of (w := m) (m := 800) (by omega) (by omega)
  have htm : a.L 9 (80 + 4 * l) 1 = S.tm := hs.2.2.1
  have hrow := (hT.1.2.1 m (Nat.zero_le _) hmN).1
  have hrow0 := hrow
  rw [hcm] at hrow hn16 hxo hlz hnz hj
  dsimp only at hn16 hxo hlz hnz hj
  have h0 : a.AI 2 3 0 m = 9 := hrow.1 0 (by decide) (by decide)
  have h3 : a.AI 2 3 3 m = mz_lk z := hrow.1 3 (by decide) (by decide)
  have eas := ma_as_s (bd := bd) (t := t) (j := j) (R := mv_E tb S S.tm S.tm 100) (tb := tb) hm0
  rw [hcm] at eas
  dsimp only at eas
  have fL : cFd l a (cLk a (80 + 4 * l) S.tm) := cFd.re.lk
  generalize hLk : cLk a (80 + 4 * l) S.tm = aL at *
  have g0 : aL.AI 2 3 0 m = 9 := by rw [(fL.2.1 2 3 0 (by omega) (by omega)).2.2.1]; exact h0
  have g3 : aL.AI 2 3 3 m = mz_lk z := by rw [(fL.2.1 2 3 3 (by omega) (by omega)).2.2.1]; exact h3
  have g6 : aL.AI 11 54 6 l = Int32.ofNat j := by rw [← hLk]; exact h6
  have fX : cFd l a ((aL.sAI 11 54 6 (upd (aL.AI 11 54 6) l 0)).sAI 11 54 5 (upd (aL.AI 11 54 5) l (mz_lk z))) := fL.sAI.sAI
  have X5 : ((aL.sAI 11 54 6 (upd (aL.AI 11 54 6) l 0)).sAI 11 54 5 (upd (aL.AI 11 54 5) l (mz_lk z))).AI 11 54 5 l = mz_lk z := by
    rw [AI_at, upd_at]
  have X6 : ((aL.sAI 11 54 6 (upd (aL.AI 11 54 6) l 0)).sAI 11 54 5 (upd (aL.AI 11 54 5) l (mz_lk z))).AI 11 54 6 l = Int32.ofNat 0 := by
    show upd (aL.AI 11 54 6) l 0 l = _
    rw [upd_at]
    rfl
  have rkX : cRk ((aL.sAI 11 54 6 (upd (aL.AI 11 54 6) l 0)).sAI 11 54 5 (upd (aL.AI 11 54 5) l (mz_lk z))) 496 N tb S S.tm S.tm := by
    have hT' := hT.fd fX
    exact ⟨⟨by decide, rfl⟩, by show cSt _ (aL.R 10 496) S; rw [← hLk]; show cSt _ (mh_v a.R 10 496 (80 + 4 * l) 10 496) S; rw [mh_v_at, hLk]; exact hs.fd fX, by rw [← hLk]; rfl, by rw [← hLk]; rfl, by rw [← hLk]; rfl, hT'.1.1, hT'.1.2.1, hS, hT'.1.2.2⟩
  generalize hX : (aL.sAI 11 54 6 (upd (aL.AI 11 54 6) l 0)).sAI 11 54 5 (upd (aL.AI 11 54 5) l (mz_lk z)) = X at *
  have x1 : X.AI 2 3 1 m = a.AI 2 3 1 m := congrFun (fX.2.1 2 3 1 (by omega) (by omega)).2.2.1 m
  have enc0 : ∀ a', a'.AI 11 54 5 = X.AI 11 54 5 → a'.AI 11 54 6 = X.AI 11 54 6 → cEnc a' l N tb bd t z 0 := by
    intro a' e5 e6
    exact ⟨⟨by omega, ⟨m, hlz⟩, hnz⟩, by rw [e5]; exact X5, by rw [e6]; exact X6, Or.inl rfl⟩
  refine b_127_0 _ _ _ _ _ _ _ (by first | (exact hc_o (by first | assumption | (exact ⟨by decide, rfl⟩))) | assumption | (exact (hc_far (by omega)).trans (by assumption))) (by omega) (by first | rfl | assumption) (by first | (exact hlv _) | assumption) (by omega) (by first | decide | assumption) (by first | assumption | (exact ix_of (by omega) (by omega)) | (exact ⟨by decide, rfl, by decide⟩)) (by first | (exact hgl _ (by omega)) | assumption) (by first | (exact hc_o (by first | assumption | (exact ⟨by decide, rfl⟩))) | assumption | (exact (hc_far (by omega)).trans (by assumption))) (by omega) (by first | rfl | assumption) (by first | (exact hc_o (by first | assumption | (exact ⟨by decide, rfl⟩))) | assumption | (exact (hc_far (by omega)).trans (by assumption))) (by omega) (by first | rfl | assumption) (by first | (exact hc_o (by first | assumption | (exact ⟨by decide, rfl⟩))) | assumption | (exact (hc_far (by omega)).trans (by assumption))) (by omega) (by first | rfl | assumption) (by first | (exact hc_o (by first | assumption | (exact ⟨by decide, rfl⟩))) | assumption | (exact (hc_far (by omega)).trans (by assumption))) (by omega) ?_
  rw [htm]
  refine cr_look (p := 496) hn hro ?_
  rw [show ((((a.sR 10 496 (80 + 4 * l)).sL 10 496 2 S.tm).sL 10 496 3 S.tm).sI 10 496 4 0) = aL from hLk]
  refine b_127_23 _ _ _ _ _ _ (by first | (exact hc_o (by first | assumption | (exact ⟨by decide, rfl⟩))) | assumption | (exact (hc_far (by omega)).trans (by assumption))) (by omega) (by first | rfl | assumption) (by first | (exact hc_o (by first | assumption | (exact ⟨by decide, rfl⟩))) | assumption | (exact (hc_far (by omega)).trans (by assumption))) (by omega) (by first | rfl | assumption) (by first | (exact hc_ai (by omega) (by first | assumption | (exact (ht9 (by assumption)).2.1) | (exact (ht9 (by assumption)).2.2.1) | (exact (ht9 (by assumption)).2.2.2) | rfl) (by decide)) | assumption | (exact (hc_far (by omega)).trans (by assumption))) (Or.inl (by omega)) (by first | assumption | (exact ix_of (by omega) (by omega)) | (exact ⟨by decide, rfl, by decide⟩)) ?_ ?_
  · intro z23
    exact absurd g0 z23
  · intro z23
    rw [g0]
    refine b_127_41 _ _ _ _ _ _ (by first | (exact hc_o (by first | assumption | (exact ⟨by decide, rfl⟩))) | assumption | (exact (hc_far (by omega)).trans (by assumption))) (by omega) (by first | rfl | assumption) (by first | (exact hc_ai (by omega) (by first | assumption | (exact (ht9 (by assumption)).2.1) | (exact (ht9 (by assumption)).2.2.1) | (exact (ht9 (by assumption)).2.2.2) | rfl) (by decide)) | assumption | (exact (hc_far (by omega)).trans (by assumption))) (Or.inl (by omega)) (by first | assumption | (exact ix_of (by omega) (by omega)) | (exact ⟨by decide, rfl, by decide⟩)) (by first | (exact hc_o (by first | assumption | (exact ⟨by decide, rfl⟩))) | assumption | (exact (hc_far (by omega)).trans (by assumption))) (by omega) (by first | rfl | assumption) (by first | (exact hc_o (by first | assumption | (exact ⟨by decide, rfl⟩))) | assumption | (exact (hc_far (by omega)).trans (by assumption))) (by omega) ?_
    refine ct_nt hn (by omega) (hT.fd fL).2.1 hT.2.2 hcm ((hT.fd fL).1.2.1 m (Nat.zero_le _) hmN).1 ?_
    rw [if_pos (hn16 rfl), g6]
    refine b_127_55 _ _ _ ?_ ?_
    · intro z55
      have hge := (i_le (a := ma_tt bd M F) (b := j) rfl rfl (by have := hn16 rfl; omega) (by have := hn16 rfl; omega)).mp z55
      refine b_127_92 _ _ _ _ _ _ _ _ _ _ _ _ (by first | (exact hc_o (by first | assumption | (exact ⟨by decide, rfl⟩))) | assumption | (exact (hc_far (by omega)).trans (by assumption))) (by omega) (by first | rfl | assumption) (by first | (exact hc_ai (by omega) (by first | assumption | (exact (ht9 (by assumption)).2.1) | (exact (ht9 (by assumption)).2.2.1) | (exact (ht9 (by assumption)).2.2.2) | rfl) (by decide)) | assumption | (exact (hc_far (by omega)).trans (by assumption))) (by omega) (by first | assumption | (exact ix_of (by omega) (by omega)) | (exact ⟨by decide, rfl, by decide⟩)) (by first | (exact (congrFun (hw_AI (by omega) (by first | assumption | (exact (ht9 (by assumption)).2.1) | (exact (ht9 (by assumption)).2.2.1) | (exact (ht9 (by assumption)).2.2.2) | rfl) (by decide)) _).trans (hc_o (by first | assumption | (exact ⟨by decide, rfl⟩)))) | assumption | (exact (hc_far (by omega)).trans (by assumption))) (by omega) (by first | rfl | assumption) (by first | (exact (congrFun (hw_AI (by omega) (by first | assumption | (exact (ht9 (by assumption)).2.1) | (exact (ht9 (by assumption)).2.2.1) | (exact (ht9 (by assumption)).2.2.2) | rfl) (by decide)) _).trans (hc_o (by first | assumption | (exact ⟨by decide, rfl⟩)))) | assumption | (exact (hc_far (by omega)).trans (by assumption))) (by omega) (by first | rfl | assumption) (by first | (exact (congrFun (hw_AI (by omega) (by first | assumption | (exact (ht9 (by assumption)).2.1) | (exact (ht9 (by assumption)).2.2.1) | (exact (ht9 (by assumption)).2.2.2) | rfl) (by decide)) _).trans (hc_o (by first | assumption | (exact ⟨by decide, rfl⟩)))) | assumption | (exact (hc_far (by omega)).trans (by assumption))) (by omega) (by first | rfl | assumption) (by first | (exact (congrFun (hw_AI (by omega) (by first | assumption | (exact (ht9 (by assumption)).2.1) | (exact (ht9 (by assumption)).2.2.1) | (exact (ht9 (by assumption)).2.2.2) | rfl) (by decide)) _).trans (hc_ai (by omega) (by first | assumption | (exact (ht9 (by assumption)).2.1) | (exact (ht9 (by assumption)).2.2.1) | (exact (ht9 (by assumption)).2.2.2) | rfl) (by decide))) | assumption | (exact (hc_far (by omega)).trans (by assumption))) (Or.inl (by omega)) (by first | assumption | (exact ix_of (by omega) (by omega)) | (exact ⟨by decide, rfl, by decide⟩)) (by first | (exact (congrFun (hw_AI (by omega) (by first | assumption | (exact (ht9 (by assumption)).2.1) | (exact (ht9 (by assumption)).2.2.1) | (exact (ht9 (by assumption)).2.2.2) | rfl) (by decide)) _).trans (hc_ai (by omega) (by first | assumption | (exact (ht9 (by assumption)).2.1) | (exact (ht9 (by assumption)).2.2.1) | (exact (ht9 (by assumption)).2.2.2) | rfl) (by decide))) | assumption | (exact (hc_far (by omega)).trans (by assumption))) (by omega) (by first | assumption | (exact ix_of (by omega) (by omega)) | (exact ⟨by decide, rfl, by decide⟩)) ?_ ?_
      · intro z92
        refine hw_W (hw_2 (hw_AI (by omega) (by first | assumption | (exact (ht9 (by assumption)).2.1) | (exact (ht9 (by assumption)).2.2.1) | (exact (ht9 (by assumption)).2.2.2) | rfl) (by decide)) (hw_AI (by omega) (by first | assumption | (exact (ht9 (by assumption)).2.1) | (exact (ht9 (by assumption)).2.2.1) | (exact (ht9 (by assumption)).2.2.2) | rfl) (by decide))) ?_
        rw [show (aL.sAI 11 54 6 (upd (aL.AI 11 54 6) l 0)).AI 2 3 3 m = mz_lk z from g3, show (aL.sAI 11 54 6 (upd (aL.AI 11 54 6) l 0)).AI 11 54 5 = aL.AI 11 54 5 from rfl, hX]
        refine b_127_146 _ _ _ ?_ ?_
        · intro z146
          refine b_127_192 _ _ _ ?_
          refine K0 _ (enc0 _ rfl rfl) ?_ fX
          rw [eas, ma_ac_8, show ma_tt bd M F - j = 0 by omega]
          rfl
        · intro z146
          exact absurd (Classical.not_not.mp z146) (by decide)
      · intro z92
        exact absurd (Classical.not_not.mp z92) (by decide)
    · intro z55
      have hlt : j < ma_tt bd M F := Nat.lt_of_not_le (fun h => z55 ((i_le (a := ma_tt bd M F) (b := j) rfl rfl (by have := hn16 rfl; omega) (by have := hn16 rfl; omega)).mpr h))
      refine b_127_58 _ _ _ _ _ _ _ _ _ _ _ _ (by first | (exact hc_o (by first | assumption | (exact ⟨by decide, rfl⟩))) | assumption | (exact (hc_far (by omega)).trans (by assumption))) (by omega) (by first | rfl | assumption) (by first | (exact hc_ai (by omega) (by first | assumption | (exact (ht9 (by assumption)).2.1) | (exact (ht9 (by assumption)).2.2.1) | (exact (ht9 (by assumption)).2.2.2) | rfl) (by decide)) | assumption | (exact (hc_far (by omega)).trans (by assumption))) (Or.inl (by omega)) (by first | assumption | (exact ix_of (by omega) (by omega)) | (exact ⟨by decide, rfl, by decide⟩)) (by first | (exact hc_ai (by omega) (by first | assumption | (exact (ht9 (by assumption)).2.1) | (exact (ht9 (by assumption)).2.2.1) | (exact (ht9 (by assumption)).2.2.2) | rfl) (by decide)) | assumption | (exact (hc_far (by omega)).trans (by assumption))) (by omega) (by first | assumption | (exact ix_of (by omega) (by omega)) | (exact ⟨by decide, rfl, by decide⟩)) (by first | (exact (congrFun (hw_AI (by omega) (by first | assumption | (exact (ht9 (by assumption)).2.1) | (exact (ht9 (by assumption)).2.2.1) | (exact (ht9 (by assumption)).2.2.2) | rfl) (by decide)) _).trans (hc_o (by first | assumption | (exact ⟨by decide, rfl⟩)))) | assumption | (exact (hc_far (by omega)).trans (by assumption))) (by omega) (by first | rfl | assumption) (by first | (exact (congrFun (hw_AI (by omega) (by first | assumption | (exact (ht9 (by assumption)).2.1) | (exact (ht9 (by assumption)).2.2.1) | (exact (ht9 (by assumption)).2.2.2) | rfl) (by decide)) _).trans (hc_o (by first | assumption | (exact ⟨by decide, rfl⟩)))) | assumption | (exact (hc_far (by omega)).trans (by assumption))) (by omega) (by first | rfl | assumption) (by first | (exact (congrFun (hw_AI (by omega) (by first | assumption | (exact (ht9 (by assumption)).2.1) | (exact (ht9 (by assumption)).2.2.1) | (exact (ht9 (by assumption)).2.2.2) | rfl) (by decide)) _).trans (hc_ai (by omega) (by first | assumption | (exact (ht9 (by assumption)).2.1) | (exact (ht9 (by assumption)).2.2.1) | (exact (ht9 (by assumption)).2.2.2) | rfl) (by decide))) | assumption | (exact (hc_far (by omega)).trans (by assumption))) (Or.inl (by omega)) (by first | assumption | (exact ix_of (by omega) (by omega)) | (exact ⟨by decide, rfl, by decide⟩)) (by first | (exact (congrFun (hw_AI (by omega) (by first | assumption | (exact (ht9 (by assumption)).2.1) | (exact (ht9 (by assumption)).2.2.1) | (exact (ht9 (by assumption)).2.2.2) | rfl) (by decide)) _).trans (hc_o (by first | assumption | (exact ⟨by decide, rfl⟩)))) | assumption | (exact (hc_far (by omega)).trans (by assumption))) (by omega) ?_
      refine hw_W (hw_AI (by omega) (by first | assumption | (exact (ht9 (by assumption)).2.1) | (exact (ht9 (by assumption)).2.2.1) | (exact (ht9 (by assumption)).2.2.2) | rfl) (by decide)) ?_
      rw [g6, of_succ, AI_at, upd_at, of_sub1]
      have f58 : cFd l a (aL.sAI 11 54 6 (upd (aL.AI 11 54 6) l (Int32.ofNat (j + 1)))) := fL.sAI
      refine ct_nr hn (by omega) (hT.fd f58).2.1 hT.2.2 hcm ((hT.fd f58).1.2.1 m (Nat.zero_le _) hmN).1 hlt (by have := hn16 rfl; omega) ?_
      refine b_127_87 _ _ _ (by first | (exact hc_o (by first | assumption | (exact ⟨by decide, rfl⟩))) | assumption | (exact (hc_far (by omega)).trans (by assumption))) (by omega) ?_
      rw [← mz_lk0 hm0]
      refine ca_set (kd := Int32.ofNat 2) hn hl ?_
      rw [mz_lk0 hm0]
      refine b_127_91 _ _ _ (by first | assumption | (exact mL_get (by decide)) | (rw [mL_len]; decide) | (simp only [mL_set]; exact mL_get (by decide)) | (simp only [mL_set, mL_len]; decide) | (exact va_eq) | (exact (va_ne (by omega)).trans (by assumption)) | (exact (va_ne (by omega)).trans va_eq) | (exact (va_ne (by omega)).trans ((va_ne (by omega)).trans (by assumption))) | (exact (va_ne (by omega)).trans ((va_ne (by omega)).trans ((va_ne (by omega)).trans (by assumption)))) | rfl | (exact Or.inl rfl) | (exact Or.inr rfl) | omega | (exact Nat.le_of_ble_eq_true rfl) | decide | (exact ⟨by decide, rfl, by decide⟩)) ?_
      rw [← mz_lk0 hm0]
      refine K1 _ (2, ma_at bd M F j, m, false) (t + 1) m (j + 1) (by omega) ⟨⟨ht8, ⟨p, hls⟩, hnl⟩, ?_, ?_, Or.inr ⟨hm0, by rw [hcm], by rw [hcm]; exact hlt⟩⟩ ?_ (cStp_set (by decide) (fun _ => rfl) (fun h => absurd h (by decide))) hm0 ha f58.sAI.sAL.sAI
      · show aL.AI 11 54 5 l = mz_lk m
        rw [← hLk]
        exact h5
      · show upd (aL.AI 11 54 6) l (Int32.ofNat (j + 1)) l = _
        rw [upd_at]
      · rw [eas, ma_as_s (j := j + 1) hm0, hcm, ma_ac_8, ma_ac_8, ma_cl_s hlt]
        rfl
theorem ca_ff9 {A B D x y z M F : Nat} {u : Int64} (hn : 575 ≤ n) (hLv : cLv f0 gl) (hl : l < 104) (hs : cSt a (80 + 4 * l) S) (hT : cTb a N BN tb bd) (hS : mv_ok S) (hm0 : ¬ m = 0) (hls : mz_ls tb N (mz_ok tb N 99) (t + 1) p m) (hnl : mo_nl tb bd (mo_NB tb bd) (t + 1) m) (ht8 : t + 1 ≤ 8) (h5 : a.AI 11 54 5 l = mz_lk m) (h6 : a.AI 11 54 6 l = Int32.ofNat j) (hj : j = 0 ∨ ((tb m).1 = 8 ∧ j ≤ ma_tt bd (tb m).2.2.2.2.2.2.2.2.1 (tb m).2.2.2.2.2.2.2.2.2)) (hcm : tb m = (9, A, B, D, u, x, y, z, M, F)) (K1 : ∀ a' s t' m' j', t' + 1 ≤ 9 → cEnc a' l N tb bd t' m' j' → ma_as tb bd (mv_E tb S S.tm S.tm 100) (t + 1) m j = s :: ma_as tb bd (mv_E tb S S.tm S.tm 100) t' m' j' → cStp a' l s → ¬ s.2.2.1 = 0 → mz_a tb N s.2.2.1 → cFd l a a' → Q (.inl (some (.int 1))) (n, sl, hc a' f0)) (K0 : ∀ a', cEnc a' l N tb bd t z 0 → ma_as tb bd (mv_E tb S S.tm S.tm 100) (t + 1) m j = ma_as tb bd (mv_E tb S S.tm S.tm 100) t z 0 → cFd l a a' → Q (.inl (some (.int 0))) (n, sl, hc a' f0)) : mi_W (e + 104) 127 0 (mi_en 5 [.ref 54, .int (Int32.ofNat l), .int (Int32.ofNat m)]) [] (n, sl, hc a f0) Q := by
  have hlv := hLv.at
  have hgl := hLv.2
  have ho1 := lv_o ⟨l, hl⟩
  dsimp only at ho1
  have ho15 := ho1.1
  have hro : mh_o 496 10 := ⟨by decide, rfl⟩
  have hix := ix_of (w := l) (m := 104) (by omega) (by omega)
  have hls' : m = 0 ∨ _ := hls
  obtain ⟨hpm, hmN, hso, had, hxo, hyo, hfm, hlz⟩ := hls'.resolve_left hm0
  have hnl' : m = 0 ∨ _ := hnl
  obtain ⟨hn16, hnb, hnz⟩ := hnl'.resolve_left hm0
  have ha : mz_a tb N m := ⟨hmN, hso, had, fun h => (hxo h).2, hyo.2⟩
  have hN8 := hT.1.1.2
  have hixm := ix_of (w := m) (m := 800) (by omega) (by omega)
  have htm : a.L 9 (80 + 4 * l) 1 = S.tm := hs.2.2.1
  have hrow := (hT.1.2.1 m (Nat.zero_le _) hmN).1
  have hrow0 := hrow
  rw [hcm] at hrow hn16 hxo hlz hnz hj
  dsimp only at hn16 hxo hlz hnz hj
  have h0 : a.AI 2 3 0 m = 10 := hrow.1 0 (by decide) (by decide)
  have h3 : a.AI 2 3 3 m = mz_lk z := hrow.1 3 (by decide) (by decide)
  have eas := ma_as_s (bd := bd) (t := t) (j := j) (R := mv_E tb S S.tm S.tm 100) (tb := tb) hm0
  rw [hcm] at eas
  dsimp only at eas
  have fL : cFd l a (cLk a (80 + 4 * l) S.tm) := cFd.re.lk
  generalize hLk : cLk a (80 + 4 * l) S.tm = aL at *
  have g0 : aL.AI 2 3 0 m = 10 := by rw [(fL.2.1 2 3 0 (by omega) (by omega)).2.2.1]; exact h0
  have g3 : aL.AI 2 3 3 m = mz_lk z := by rw [(fL.2.1 2 3 3 (by omega) (by omega)).2.2.1]; exact h3
  have g6 : aL.AI 11 54 6 l = Int32.ofNat j := by rw [← hLk]; exact h6
  have h1 : a.AI 2 3 1 m = Int32.ofNat x := hrow.1 1 (by decide) (by decide)
  have g1 : aL.AI 2 3 1 m = Int32.ofNat x := by rw [(fL.2.1 2 3 1 (by omega) (by omega)).2.2.1]; exact h1
  have hj0 : j = 0 := hj.elim (fun h => h) (fun h => absurd h.1 (by decide))
  have hxk : mz_ok tb N 100 2 x := mz_dn (hxo (by decide)).2
  have fX : cFd l a ((aL.sAI 11 54 6 (upd (aL.AI 11 54 6) l 0)).sAI 11 54 5 (upd (aL.AI 11 54 5) l (mz_lk z))) := fL.sAI.sAI
  have X5 : ((aL.sAI 11 54 6 (upd (aL.AI 11 54 6) l 0)).sAI 11 54 5 (upd (aL.AI 11 54 5) l (mz_lk z))).AI 11 54 5 l = mz_lk z := by
    rw [AI_at, upd_at]
  have X6 : ((aL.sAI 11 54 6 (upd (aL.AI 11 54 6) l 0)).sAI 11 54 5 (upd (aL.AI 11 54 5) l (mz_lk z))).AI 11 54 6 l = Int32.ofNat 0 := by
    show upd (aL.AI 11 54 6) l 0 l = _
    rw [upd_at]
    rfl
  have rkX : cRk ((aL.sAI 11 54 6 (upd (aL.AI 11 54 6) l 0)).sAI 11 54 5 (upd (aL.AI 11 54 5) l (mz_lk z))) 496 N tb S S.tm S.tm := by
    have hT' := hT.fd fX
    exact ⟨⟨by decide, rfl⟩, by show cSt _ (aL.R 10 496) S; rw [← hLk]; show cSt _ (mh_v a.R 10 496 (80 + 4 * l) 10 496) S; rw [mh_v_at, hLk]; exact hs.fd fX, by rw [← hLk]; rfl, by rw [← hLk]; rfl, by rw [← hLk]; rfl, hT'.1.1, hT'.1.2.1, hS, hT'.1.2.2⟩
  generalize hX : (aL.sAI 11 54 6 (upd (aL.AI 11 54 6) l 0)).sAI 11 54 5 (upd (aL.AI 11 54 5) l (mz_lk z)) = X at *
  have x1 : X.AI 2 3 1 m = a.AI 2 3 1 m := congrFun (fX.2.1 2 3 1 (by omega) (by omega)).2.2.1 m
  have enc0 : ∀ a', a'.AI 11 54 5 = X.AI 11 54 5 → a'.AI 11 54 6 = X.AI 11 54 6 → cEnc a' l N tb bd t z 0 := by
    intro a' e5 e6
    exact ⟨⟨by omega, ⟨m, hlz⟩, hnz⟩, by rw [e5]; exact X5, by rw [e6]; exact X6, Or.inl rfl⟩
  refine b_127_0 _ _ _ _ _ _ _ (by first | (exact hc_o (by first | assumption | (exact ⟨by decide, rfl⟩))) | assumption | (exact (hc_far (by omega)).trans (by assumption))) (by omega) (by first | rfl | assumption) (by first | (exact hlv _) | assumption) (by omega) (by first | decide | assumption) (by first | assumption | (exact ix_of (by omega) (by omega)) | (exact ⟨by decide, rfl, by decide⟩)) (by first | (exact hgl _ (by omega)) | assumption) (by first | (exact hc_o (by first | assumption | (exact ⟨by decide, rfl⟩))) | assumption | (exact (hc_far (by omega)).trans (by assumption))) (by omega) (by first | rfl | assumption) (by first | (exact hc_o (by first | assumption | (exact ⟨by decide, rfl⟩))) | assumption | (exact (hc_far (by omega)).trans (by assumption))) (by omega) (by first | rfl | assumption) (by first | (exact hc_o (by first | assumption | (exact ⟨by decide, rfl⟩))) | assumption | (exact (hc_far (by omega)).trans (by assumption))) (by omega) (by first | rfl | assumption) (by first | (exact hc_o (by first | assumption | (exact ⟨by decide, rfl⟩))) | assumption | (exact (hc_far (by omega)).trans (by assumption))) (by omega) ?_
  rw [htm]
  refine cr_look (p := 496) hn hro ?_
  rw [show ((((a.sR 10 496 (80 + 4 * l)).sL 10 496 2 S.tm).sL 10 496 3 S.tm).sI 10 496 4 0) = aL from hLk]
  refine b_127_23 _ _ _ _ _ _ (by first | (exact hc_o (by first | assumption | (exact ⟨by decide, rfl⟩))) | assumption | (exact (hc_far (by omega)).trans (by assumption))) (by omega) (by first | rfl | assumption) (by first | (exact hc_o (by first | assumption | (exact ⟨by decide, rfl⟩))) | assumption | (exact (hc_far (by omega)).trans (by assumption))) (by omega) (by first | rfl | assumption) (by first | (exact hc_ai (by omega) (by first | assumption | (exact (ht9 (by assumption)).2.1) | (exact (ht9 (by assumption)).2.2.1) | (exact (ht9 (by assumption)).2.2.2) | rfl) (by decide)) | assumption | (exact (hc_far (by omega)).trans (by assumption))) (Or.inl (by omega)) (by first | assumption | (exact ix_of (by omega) (by omega)) | (exact ⟨by decide, rfl, by decide⟩)) ?_ ?_
  · intro z23
    rw [g0]
    refine b_127_92 _ _ _ _ _ _ _ _ _ _ _ _ (by first | (exact hc_o (by first | assumption | (exact ⟨by decide, rfl⟩))) | assumption | (exact (hc_far (by omega)).trans (by assumption))) (by omega) (by first | rfl | assumption) (by first | (exact hc_ai (by omega) (by first | assumption | (exact (ht9 (by assumption)).2.1) | (exact (ht9 (by assumption)).2.2.1) | (exact (ht9 (by assumption)).2.2.2) | rfl) (by decide)) | assumption | (exact (hc_far (by omega)).trans (by assumption))) (by omega) (by first | assumption | (exact ix_of (by omega) (by omega)) | (exact ⟨by decide, rfl, by decide⟩)) (by first | (exact (congrFun (hw_AI (by omega) (by first | assumption | (exact (ht9 (by assumption)).2.1) | (exact (ht9 (by assumption)).2.2.1) | (exact (ht9 (by assumption)).2.2.2) | rfl) (by decide)) _).trans (hc_o (by first | assumption | (exact ⟨by decide, rfl⟩)))) | assumption | (exact (hc_far (by omega)).trans (by assumption))) (by omega) (by first | rfl | assumption) (by first | (exact (congrFun (hw_AI (by omega) (by first | assumption | (exact (ht9 (by assumption)).2.1) | (exact (ht9 (by assumption)).2.2.1) | (exact (ht9 (by assumption)).2.2.2) | rfl) (by decide)) _).trans (hc_o (by first | assumption | (exact ⟨by decide, rfl⟩)))) | assumption | (exact (hc_far (by omega)).trans (by assumption))) (by omega) (by first | rfl | assumption) (by first | (exact (congrFun (hw_AI (by omega) (by first | assumption | (exact (ht9 (by assumption)).2.1) | (exact (ht9 (by assumption)).2.2.1) | (exact (ht9 (by assumption)).2.2.2) | rfl) (by decide)) _).trans (hc_o (by first | assumption | (exact ⟨by decide, rfl⟩)))) | assumption | (exact (hc_far (by omega)).trans (by assumption))) (by omega) (by first | rfl | assumption) (by first | (exact (congrFun (hw_AI (by omega) (by first | assumption | (exact (ht9 (by assumption)).2.1) | (exact (ht9 (by assumption)).2.2.1) | (exact (ht9 (by assumption)).2.2.2) | rfl) (by decide)) _).trans (hc_ai (by omega) (by first | assumption | (exact (ht9 (by assumption)).2.1) | (exact (ht9 (by assumption)).2.2.1) | (exact (ht9 (by assumption)).2.2.2) | rfl) (by decide))) | assumption | (exact (hc_far (by omega)).trans (by assumption))) (Or.inl (by omega)) (by first | assumption | (exact ix_of (by omega) (by omega)) | (exact ⟨by decide, rfl, by decide⟩)) (by first | (exact (congrFun (hw_AI (by omega) (by first | assumption | (exact (ht9 (by assumption)).2.1) | (exact (ht9 (by assumption)).2.2.1) | (exact (ht9 (by assumption)).2.2.2) | rfl) (by decide)) _).trans (hc_ai (by omega) (by first | assumption | (exact (ht9 (by assumption)).2.1) | (exact (ht9 (by assumption)).2.2.1) | (exact (ht9 (by assumption)).2.2.2) | rfl) (by decide))) | assumption | (exact (hc_far (by omega)).trans (by assumption))) (by omega) (by first | assumption | (exact ix_of (by omega) (by omega)) | (exact ⟨by decide, rfl, by decide⟩)) ?_ ?_
    · intro z92
      refine hw_W (hw_2 (hw_AI (by omega) (by first | assumption | (exact (ht9 (by assumption)).2.1) | (exact (ht9 (by assumption)).2.2.1) | (exact (ht9 (by assumption)).2.2.2) | rfl) (by decide)) (hw_AI (by omega) (by first | assumption | (exact (ht9 (by assumption)).2.1) | (exact (ht9 (by assumption)).2.2.1) | (exact (ht9 (by assumption)).2.2.2) | rfl) (by decide))) ?_
      rw [show (aL.sAI 11 54 6 (upd (aL.AI 11 54 6) l 0)).AI 2 3 3 m = mz_lk z from g3, show (aL.sAI 11 54 6 (upd (aL.AI 11 54 6) l 0)).AI 11 54 5 = aL.AI 11 54 5 from rfl, hX]
      refine b_127_146 _ _ _ ?_ ?_
      · intro z146
        exact absurd rfl z146
      · intro z146
        refine b_127_153 _ _ _ _ _ _ (by first | (exact hc_o (by first | assumption | (exact ⟨by decide, rfl⟩))) | assumption | (exact (hc_far (by omega)).trans (by assumption))) (by omega) (by first | rfl | assumption) (by first | (exact hc_o (by first | assumption | (exact ⟨by decide, rfl⟩))) | assumption | (exact (hc_far (by omega)).trans (by assumption))) (by omega) (by first | rfl | assumption) (by first | (exact hc_o (by first | assumption | (exact ⟨by decide, rfl⟩))) | assumption | (exact (hc_far (by omega)).trans (by assumption))) (by omega) (by first | rfl | assumption) (by first | (exact hc_ai (by omega) (by first | assumption | (exact (ht9 (by assumption)).2.1) | (exact (ht9 (by assumption)).2.2.1) | (exact (ht9 (by assumption)).2.2.2) | rfl) (by decide)) | assumption | (exact (hc_far (by omega)).trans (by assumption))) (Or.inl (by omega)) (by first | assumption | (exact ix_of (by omega) (by omega)) | (exact ⟨by decide, rfl, by decide⟩)) (by first | (exact hc_o (by first | assumption | (exact ⟨by decide, rfl⟩))) | assumption | (exact (hc_far (by omega)).trans (by assumption))) (by omega) ?_
        rw [x1, h1]
        have E7 := (cv_E (sl := sl) (f0 := f0) (a := X) (p := 496) (N := N) (tb := tb) (S := S) (lo := S.tm) (hi := S.tm) hn rkX 100 (by omega)).2
        refine E7 x 1 _ false _ (by omega) (by omega) hxk (fun r b hr01 c => ?_)
        have hfl : ∀ b, (cvL 496 X b).I 10 496 4 = cfl b := fun b => by cases b with | true => exact I_at | false => exact rkX.2.2.2.2.1
        have fe := fX.cvL (b := b)
        have e56 : ∀ k, (cvL 496 X b).AI 11 54 k = X.AI 11 54 k := fun k => by cases b <;> rfl
        have h183 : ((mv_E tb S S.tm S.tm 100).2 x = none ∨ (mv_E tb S S.tm S.tm 100).2 x = some true) → mi_W (e + 104) 127 183 [some (.ref 54), some (.int (Int32.ofNat l)), some (.int (Int32.ofNat m)), some (.ref (80 + 4 * l)), some (.int 10)] [] (n, sl, hc (cvL 496 X b) f0) Q := by
          intro hv
          refine b_127_183 _ _ _ (by first | (exact hc_o (by first | assumption | (exact ⟨by decide, rfl⟩))) | assumption | (exact (hc_far (by omega)).trans (by assumption))) (by omega) ?_
          rw [← mz_lk0 hm0]
          refine ca_set (kd := Int32.ofNat 3) hn hl ?_
          rw [mz_lk0 hm0]
          refine b_127_191 _ _ _ (by first | assumption | (exact mL_get (by decide)) | (rw [mL_len]; decide) | (simp only [mL_set]; exact mL_get (by decide)) | (simp only [mL_set, mL_len]; decide) | (exact va_eq) | (exact (va_ne (by omega)).trans (by assumption)) | (exact (va_ne (by omega)).trans va_eq) | (exact (va_ne (by omega)).trans ((va_ne (by omega)).trans (by assumption))) | (exact (va_ne (by omega)).trans ((va_ne (by omega)).trans ((va_ne (by omega)).trans (by assumption)))) | rfl | (exact Or.inl rfl) | (exact Or.inr rfl) | omega | (exact Nat.le_of_ble_eq_true rfl) | decide | (exact ⟨by decide, rfl, by decide⟩)) ?_
          rw [← mz_lk0 hm0]
          rcases hv with hv | hv
          · refine K1 _ (3, 0, m, true) t z 0 (by omega) (enc0 _ (set_5.trans (e56 5)) (set_6.trans (e56 6))) ?_ (cStp_set (by decide) (fun _ => rfl) (fun h => absurd h (by decide))) hm0 ha fe.sAI.sAL.sAI
            rw [eas, ma_ac_9n hv]
            rfl
          · refine K1 _ (3, 0, m, false) t z 0 (by omega) (enc0 _ (set_5.trans (e56 5)) (set_6.trans (e56 6))) ?_ (cStp_set (by decide) (fun _ => rfl) (fun h => absurd h (by decide))) hm0 ha fe.sAI.sAL.sAI
            rw [eas, ma_ac_9t hv]
            rfl
        refine b_127_170 _ _ _ ?_ ?_
        · intro z170
          refine h183 ?_
          cases hv : (mv_E tb S S.tm S.tm 100).2 x with
          | none => exact Or.inl rfl
          | some w =>
            rw [hv] at c
            cases w with
            | true => exact Or.inr rfl
            | false =>
              have hb : b = false ∧ r = 0 := c
              obtain ⟨rfl, rfl⟩ := hb
              first | exact absurd rfl z170 | exact absurd rfl z173
        · intro z170
          refine b_127_173 _ _ _ (by first | (exact hc_o (by first | assumption | (exact ⟨by decide, rfl⟩))) | assumption | (exact (hc_far (by omega)).trans (by assumption))) (by omega) (by first | rfl | assumption) (by first | (exact hc_o (by first | assumption | (exact ⟨by decide, rfl⟩))) | assumption | (exact (hc_far (by omega)).trans (by assumption))) (by omega) (by first | rfl | assumption) ?_ ?_
          · intro z173
            rw [hfl b] at z173
            refine b_127_192 _ _ _ ?_
            refine K0 _ (enc0 _ (e56 5) (e56 6)) ?_ fe
            rw [eas]
            cases hv : (mv_E tb S S.tm S.tm 100).2 x with
            | none =>
              rw [hv] at c
              have hb : b = true := c
              subst hb
              exact absurd z173 (by decide)
            | some w =>
              rw [hv] at c
              cases w with
              | false =>
                rw [ma_ac_9f hv]
                rfl
              | true =>
                have hb : b = false ∧ r = 1 := c
                obtain ⟨rfl, rfl⟩ := hb
                exact absurd (Classical.not_not.mp z170) (by decide)
          · intro z173
            rw [hfl b] at z173
            refine h183 ?_
            cases hv : (mv_E tb S S.tm S.tm 100).2 x with
            | none => exact Or.inl rfl
            | some w =>
              rw [hv] at c
              cases w with
              | true => exact Or.inr rfl
              | false =>
                have hb : b = false ∧ r = 0 := c
                obtain ⟨rfl, rfl⟩ := hb
                first | exact absurd rfl z170 | exact absurd rfl z173
    · intro z92
      exact absurd (Classical.not_not.mp z92) (by decide)
  · intro z23
    exact absurd (Classical.not_not.mp z23) (by rw [g0]; decide)
end
