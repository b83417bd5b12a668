/-! the second object: its search -/
section
variable {d n sl N BN w u i k q kd m c K p0 n' sl' n1 sl1 n2 sl2 u1 c1 M F a t j o : Nat} {b b0 b1 b2 b' : mg_A} {f0 : Nat → mi_C} {pl pl1 : Nat → Nat} {tb : Nat → ms_N} {bd : Nat → Int64 × Int64} {S : mv_S} {r r1 r2 : ma_R} {Q : (Option Value ⊕ Nat) → mi_H → Prop} {v T : Int64} {I : mv_I} {x : Int32} {l4 l5 : Int32} {o6 : Option Value}
theorem gLc.rf (hC : gCx n sl b w u pl c N BN tb bd) (hSt : mg_S b p0 S) (hp0n : p0 + 5 < n) (hp0 : ∀ i, w ≤ i → i < u → ¬ p0 = pl i) (hwu : w < u) (hc : c ≤ 5000) : gLc n b w u pl p0 S N BN tb bd n sl b u pl c := ⟨hC, ⟨hSt, hp0n, hp0⟩, hwu, hc, gAf.re, Nat.le_refl _, ⟨fun _ _ => rfl, fun i h1 h2 => absurd h2 (by omega)⟩, Nat.le_refl _, fun _ _ => rfl, rfl⟩
/-- a step without an input: copy, transact, stepped -/
theorem g_bare (IG : gIG f0 N BN tb bd K) (hw : w + (K + 1) = 103) (hwu : w < u) (hc : c ≤ 5000) (hC : gCx n sl b w u pl c N BN tb bd) {bA : mg_A} (fA : gAf w u pl b bA) (eB : bA.B = b.B) (eD : bA.D = b.D) (eX : ∀ j, ¬ j = 46 → ¬ j = 47 → ¬ j = 48 → ¬ j = 58 → bA.I 505 j = b.I 505 j) (hsA : bA.s = .ref (pl w)) (SA : mg_S bA (pl w) S) (hS : mv_ok S) (hmk : mz_ok tb N k 0 S.at) (hk100 : k ≤ 100) (hdd : 105 ≤ d) (Kok : ∀ b2 Z, ma_tx tb bd 0 I T S = .ok Z → gAf w u pl b b2 → gCx n sl b2 w u pl c N BN tb bd → b2.D = b.D → b2.I 505 75 = b.I 505 75 → mg_S b2 (pl w) Z.S → b2.I 505 47 = Int32.ofNat Z.ws.1 → Z.ws.1 ≤ 148 → (∀ p S', ¬ p = pl w → mg_S bA p S' → mg_S b2 p S') → Q (.inl (some (.int 0))) (n, sl, hd b2 f0)) (Ker : ∀ b2 x, ma_tx tb bd 0 I T S = .error x → 1 ≤ x → x ≤ 7 → gAf w u pl b b2 → gCx n sl b2 w u pl c N BN tb bd → b2.D = b.D → b2.I 505 75 = b.I 505 75 → (∀ p S', ¬ p = pl w → mg_S bA p S' → mg_S b2 p S') → Q (.inl (some (.int (Int32.ofNat x)))) (n, sl, hd b2 f0)) : mi_W d 174 0 (mi_en 8 [.ref 505, .long T, .long T, .int 0]) [] (n, sl, hd bA f0) Q := by
  obtain ⟨hT, h57, hBy, h73, h74⟩ := hC
  have hn := hBy.2.2.2.2.2.2.2
  obtain ⟨dd, rfl⟩ : ∃ dd, d = dd + 105 := ⟨d - 105, by omega⟩
  have hbd : ∀ j, mv_in (bd j).1 ∧ mv_in (bd j).2 := fun j => ms_bo_in (hT.2.2 j)
  have TA := hT.af fA
  have main : ∀ b2, gTf (pl w) bA b2 → gAf w u pl b b2 ∧ gCx n sl b2 w u pl c N BN tb bd ∧ b2.D = b.D ∧ b2.I 505 75 = b.I 505 75 ∧ (∀ p S', ¬ p = pl w → mg_S bA p S' → mg_S b2 p S') := by
    intro b2 f2
    have a2 : gAf w u pl b b2 := fA.trans (gAf.tf f2 hwu) (Nat.le_refl _) (fun _ _ => rfl)
    have eX2 : ∀ j, ¬ j = 46 → ¬ j = 47 → ¬ j = 48 → ¬ j = 58 → b2.I 505 j = b.I 505 j := fun j h1 h2 h3 h4 => (f2.2.2.2.1 j h1 h2 h3 h4).trans (eX j h1 h2 h3 h4)
    refine ⟨a2, ⟨hT.af a2, (eX2 57 (by decide) (by decide) (by decide) (by decide)).trans h57, hBy.to (f2.1.2.1.trans eB) (f2.1.2.2.trans eD), ⟨(eX2 73 (by decide) (by decide) (by decide) (by decide)).trans h73.1, h73.2⟩, (eX2 74 (by decide) (by decide) (by decide) (by decide)).trans h74.1, h74.2⟩, f2.1.2.2.trans eD, eX2 75 (by decide) (by decide) (by decide) (by decide), fun p S' hp hS' => ?_⟩
    have fz := fun k => f2.2.2.2.2.2 k p hp
    unfold mg_S
    rw [(fz 0).1, (fz 0).2, (fz 1).2, (fz 2).2, (fz 3).2, (fz 4).1, (fz 5).1, f2.1.2.2]
    exact hS'
  refine g_run (e := dd) (many := 0) (ins := fun _ => I) (wal := false) (w := fun _ => 0) hn SA hsA (hBy.1 w hwu).2.2.1 ⟨TA.1.1, TA.1.2.1, hT.1.2.2⟩ ((eX 57 (by decide) (by decide) (by decide) (by decide)).trans h57) (fun h => Bool.noConfusion h) hS hmk hk100 TA.2.1 hbd (by decide) (fun j hj => absurd hj (Nat.not_lt_zero j)) (fun b2 Z2 k2 hz f2 m2 J2 l2 => ?_) (fun b2 x hx h1 h7 f2 => ?_)
  · obtain ⟨q1, q2, q3, q4, q5⟩ := main b2 f2
    exact Kok b2 Z2 hz q1 q2 q3 q4 m2.2.2.2.1 m2.2.2.2.2.1.1.1 m2.2.2.2.2.1.1.2.1 q5
  · obtain ⟨q1, q2, q3, q4, q5⟩ := main b2 f2
    exact Ker b2 x hx h1 h7 q1 q2 q3 q4 q5
theorem ma_ou_0 {lg : Bool} (h1 : ¬ kd = 1) : ma_ou tb bd S (kd, v, 0, lg) = ma_tx tb bd 0 (ma_in tb 0 v) (if kd = 4 then v else S.tm) S := by
  unfold ma_ou
  dsimp only
  rw [if_neg (fun h => h1 h.1), if_pos rfl]
theorem g_time (IG : gIG f0 N BN tb bd K) (hw : w + (K + 1) = 103) (hwu0 : w < u) (hS : mv_ok S) (hk : mz_ok tb N k 0 S.at) (hk100 : k ≤ 100) (hkK : k ≤ K + 1) (hNB : mo_NB tb bd S.at) (h4 : (tb S.at).1 = 4) (hdd : 4 * K + 124 ≤ d) (hL : gLc n b w u pl p0 S N BN tb bd n1 sl1 b1 u1 pl1 c1) (KK : ∀ n' sl' b', gPo n b w u pl N BN tb bd (ma_tr tb bd (ma_go tb bd K) S [(4, (tb S.at).2.2.2.2.1, 0, false)] c1) n' sl' b' → Q (.inl (some (.int (Int32.ofNat (ma_tr tb bd (ma_go tb bd K) S [(4, (tb S.at).2.2.2.2.1, 0, false)] c1).1)))) (n', sl', hd b' f0)) : mi_W d 197 161 [some (.ref 505), some (.ref p0), some (.ref (pl w)), some (.int l4), some (.int l5), o6] [] (n1, sl1, hd b1 f0) Q := by
  obtain ⟨hC, ⟨hSt, hp0n, hp0⟩, hwu, hc, -, hu, hp, -⟩ := id hL
  obtain ⟨hT, h57, hBy, h73, h74⟩ := id hC
  have hn := hBy.2.2.2.2.2.2.2
  obtain ⟨dd, rfl⟩ : ∃ dd, d = dd + 1 := ⟨d - 1, by omega⟩
  have hplw : pl1 w = pl w := hp.1 w hwu0
  rw [← hplw]
  obtain ⟨-, hpl4, hpln, hplo⟩ := hBy.1 w hwu
  have hp0w : ¬ p0 = pl1 w := hp0 w (Nat.le_refl _) hwu
  have hat : S.at < N := (mz_ok_le hk100 hk |> mz_u1)
  have hN8 := hT.1.1
  have KS : ∀ n' sl' b', gPo n1 b1 w u1 pl1 N BN tb bd (ma_st tb bd (ma_go tb bd K) S (4, (tb S.at).2.2.2.2.1, 0, false) c1) n' sl' b' → Q (.inl (some (.int (Int32.ofNat (ma_st tb bd (ma_go tb bd K) S (4, (tb S.at).2.2.2.2.1, 0, false) c1).1)))) (n', sl', hd b' f0) := by
    intro n' sl' b' hP
    have e := ma_tr_o (tb := tb) (bd := bd) (go := ma_go tb bd K) (S := S) (s := (4, (tb S.at).2.2.2.2.1, 0, false)) (c := c1)
    have := KK n' sl' b' (hL.fin (hP.eq e.1 e.2.1 e.2.2))
    rw [e.1] at this
    exact this
  rw [ma_st_2, ma_ou_0 (by decide), if_pos rfl] at KS
  have hbd : ∀ j, mv_in (bd j).1 ∧ mv_in (bd j).2 := fun j => ms_bo_in (hT.2.2 j)
  generalize hvv : (tb S.at).2.2.2.2.1 = v at *
  refine b_197_161 _ _ _ (by first | (exact hd_8 (by assumption)) | assumption) (by omega) ?_
  refine g_copy hn hpln hp0n hplo hSt hp0w (fun b2 f2 s2 => ?_)
  have a2 : gAf w u1 pl1 b1 b2 := gAf.cf f2 hwu
  have s2' : mg_S b2 p0 S := f2.st hp0w hSt
  have hp0o := s2'.1
  have hplo2 := s2.1
  have e0 : b2.P 0 p0 0 = Int32.ofNat S.at := s2'.2.1.1
  have hix : mi_ix (b2.P 0 p0 0) 800 S.at := by rw [e0]; exact ix_of (by omega) (by omega)
  have hv : b2.J 517 S.at = v := by rw [f2.2.1]; exact ((hT.1.2.1 S.at hat).2.2.2.2.1 (by rw [h4]; decide)).trans hvv
  refine b_197_166 _ _ _ _ _ _ (by first | (exact hd_9) | assumption) (by omega) (by rw [mL_len]; decide) (by first | (exact (congrFun (gw_S) _).trans (hd_9)) | assumption) (by omega) (by exact mL_get (by decide)) (by first | (exact (congrFun (gw_S) _).trans (hd_8 (by assumption))) | assumption) (by omega) (by exact rfl) (by first | (exact (congrFun (gw_S) _).trans (hd_J (by omega) rfl)) | (exact (congrFun (gw_S) _).trans (hd_L1 (by assumption))) | (exact (congrFun (gw_S) _).trans (hd_L2 (by assumption))) | (exact (congrFun (gw_S) _).trans (hd_L3 (by assumption))) | assumption) (by omega) (by first | assumption | (exact ix_of (by omega) (by omega)) | (exact ⟨by decide, rfl, by decide⟩)) (by first | (exact (congrFun (gw_S) _).trans (hd_9)) | assumption) (by omega) ?_
  refine hw_W (gw_S) ?_
  rw [show (b2.sS (.ref (pl1 w))).J 517 S.at = v from hv]
  refine g_bare (bA := b2.sS (.ref (pl1 w))) (I := ma_in tb 0 v) (b := b1) IG hw hwu hc hC (a2.trans gAf.sS (Nat.le_refl _) (fun _ _ => rfl)) f2.2.2.2.1 f2.2.2.2.2.1 (fun j _ _ _ _ => by show b2.I 505 j = _; rw [f2.1]) rfl (show mg_S (b2.sS (.ref (pl1 w))) (pl1 w) S from s2) hS hk hk100 (by omega) (fun b3 Z hz a3 C3 D3 e75 S3 w3 w8 _ => ?_) (fun b3 x hx h1 h7 a3 C3 D3 e75 _ => ?_)
  · refine b_197_191 _ _ _ (by first | (exact hd_9) | assumption) (by omega) ?_
    first | (refine g_stepped (o := ma_tx tb bd 0 (ma_in tb 0 v) v S) (f := 0) (kd := 4) (m := 0) IG hw hwu hc C3 (fun Z' hZ => ?_) (fun x hx => ?_) (by decide) (by omega) (fun n' sl' b' hP => ?_); have hq : Z' = Z := Except.ok.inj (hZ.symm.trans hz); subst hq; obtain ⟨k', J', -, -, nb, -, -, rd⟩ := ma_tx_ok hT.1.2.2 hbd hS hk hk100 hNB (by decide) hZ; obtain ⟨k2, l2, m2⟩ := ma_tx_tm hT.1.2.2 hS hk hk100 h4 (by rw [hvv]; exact hZ); exact ⟨rfl, S3, w3, w8, J'.1, ⟨k2, by omega, m2, fun h => (by rw [rd] at h; cases h), by omega⟩, nb⟩; exact absurd (hx.symm.trans hz) (fun h => by cases h); refine b_197_202 _ _ _ ?_; exact KS n' sl' b' (hP.pre a3 (fun q _ => congrFun D3 q) e75)) | skip
    all_goals refine g_stepped (o := ma_tx tb bd 0 (ma_in tb 0 v) v S) (kd := 4) (m := 0) IG hw hwu hc C3 (fun Z hZ => ?_) (fun _ _ => of_17 h1 h7) (by decide) (by omega) (fun n' sl' b' hP => ?_)
    all_goals first | (exact absurd (hZ.symm.trans hx) (fun h => by cases h)) | (refine b_197_202 _ _ _ ?_; exact KS n' sl' b' (hP.pre a3 (fun q _ => congrFun D3 q) e75))
  · refine b_197_191 _ _ _ (by first | (exact hd_9) | assumption) (by omega) ?_
    first | (refine g_stepped (o := ma_tx tb bd 0 (ma_in tb 0 v) v S) (f := 0) (kd := 4) (m := 0) IG hw hwu hc C3 (fun Z' hZ => ?_) (fun x hx => ?_) (by decide) (by omega) (fun n' sl' b' hP => ?_); have hq : Z' = Z := Except.ok.inj (hZ.symm.trans hz); subst hq; obtain ⟨k', J', -, -, nb, -, -, rd⟩ := ma_tx_ok hT.1.2.2 hbd hS hk hk100 hNB (by decide) hZ; obtain ⟨k2, l2, m2⟩ := ma_tx_tm hT.1.2.2 hS hk hk100 h4 (by rw [hvv]; exact hZ); exact ⟨rfl, S3, w3, w8, J'.1, ⟨k2, by omega, m2, fun h => (by rw [rd] at h; cases h), by omega⟩, nb⟩; exact absurd (hx.symm.trans hz) (fun h => by cases h); refine b_197_202 _ _ _ ?_; exact KS n' sl' b' (hP.pre a3 (fun q _ => congrFun D3 q) e75)) | skip
    all_goals refine g_stepped (o := ma_tx tb bd 0 (ma_in tb 0 v) v S) (kd := 4) (m := 0) IG hw hwu hc C3 (fun Z hZ => ?_) (fun _ _ => of_17 h1 h7) (by decide) (by omega) (fun n' sl' b' hP => ?_)
    all_goals first | (exact absurd (hZ.symm.trans hx) (fun h => by cases h)) | (refine b_197_202 _ _ _ ?_; exact KS n' sl' b' (hP.pre a3 (fun q _ => congrFun D3 q) e75))
theorem g_acts (IG : gIG f0 N BN tb bd K) (hw : w + (K + 1) = 103) (hwu0 : w < u) (hS : mv_ok S) (hk : mz_ok tb N k 0 S.at) (hk100 : k ≤ 100) (hkK : k ≤ K + 1) (hrd : ma_rd tb S = false) (hNB : mo_NB tb bd S.at) (h4 : (tb S.at).1 = 4) (hdd : 4 * K + 124 ≤ d) : ∀ (t pm m n1 sl1 : Nat) (b1 : mg_A) (u1 : Nat) (pl1 : Nat → Nat) (c1 : Nat) (o6 : Option Value), mz_ls tb N (mz_ok tb N 99) t pm m → gLc n b w u pl p0 S N BN tb bd n1 sl1 b1 u1 pl1 c1 → (∀ n' sl' b', gPo n b w u pl N BN tb bd (ma_tr tb bd (ma_go tb bd K) S (ma_wh tb bd S t m 0) c1) n' sl' b' → Q (.inl (some (.int (Int32.ofNat (ma_tr tb bd (ma_go tb bd K) S (ma_wh tb bd S t m 0) c1).1)))) (n', sl', hd b' f0)) → mi_W d 197 103 [some (.ref 505), some (.ref p0), some (.ref (pl w)), some (.int l4), some (.int (mz_lk m)), o6] [] (n1, sl1, hd b1 f0) Q := by
  have hNd : gNd tb N S (K + 1) := ⟨k, hk100, hk, fun h => (by rw [hrd] at h; cases h), hkK⟩
  intro t
  induction t with
  | zero =>
    intro pm m n1 sl1 b1 u1 pl1 c1 o6 hls hL KK
    have hm0 : m = 0 := hls
    subst hm0
    refine b_197_103 _ _ _ ?_ ?_
    · intro z103
      exact g_time IG hw hwu0 hS hk hk100 hkK hNB h4 hdd hL KK
    · intro z103
      exact absurd (by decide) z103
  | succ t ih =>
    intro pm m n1 sl1 b1 u1 pl1 c1 o6 hls hL KK
    by_cases hm0 : m = 0
    · subst hm0
      have e0 : ma_wh tb bd S (t + 1) 0 0 = [(4, (tb S.at).2.2.2.2.1, 0, false)] := rfl
      rw [e0] at KK
      refine b_197_103 _ _ _ ?_ ?_
      · intro z103
        exact g_time IG hw hwu0 hS hk hk100 hkK hNB h4 hdd hL KK
      · intro z103
        exact absurd (by decide) z103
    · have hls' : m = 0 ∨ _ := hls
      obtain ⟨hpm, hmN, hso, had, hxo, hyo, hfm, hlz⟩ := hls'.resolve_left hm0
      have ha : mz_a tb N m := ⟨hmN, hso, had, fun h => (hxo h).2, hyo.2⟩
      obtain ⟨hC, ⟨hSt, hp0n, hp0⟩, hwu, hc, -, hu, hp, -⟩ := id hL
      obtain ⟨hT, h57, hBy, h73, h74⟩ := id hC
      have hn := hBy.2.2.2.2.2.2.2
      obtain ⟨dd, hd1⟩ : ∃ dd, d = dd + 1 := ⟨d - 1, by omega⟩
      have hN8 := hT.1.1
      have hplw : pl1 w = pl w := hp.1 w hwu0
      have hixm := ix_of (w := m) (m := 800) (by omega) (by omega)
      have ho := mz_so3 ⟨(tb m).1, mz_so33 hso (by decide)⟩ hso
      dsimp only at ho
      have w0 : b1.I 509 m = Int32.ofNat (tb m).1 := (hT.1.2.1 m hmN).1
      have ewh : ma_wh tb bd S (t + 1) m 0 = ma_ac bd (mv_E tb S S.tm S.tm 100) m 0 (tb m) ++ ma_wh tb bd S t (tb m).2.2.2.2.2.2.2.1 0 := by
        unfold ma_wh
        rw [ma_as_s hm0, List.append_assoc]
      rw [ewh, ma_tr_app] at KK
      generalize hr : ma_tr tb bd (ma_go tb bd K) S (ma_ac bd (mv_E tb S S.tm S.tm 100) m 0 (tb m)) c1 = r at KK
      have hrc : r.1 = 0 → r.2.1 ≤ 5000 := fun h => by
        rw [← hr] at h ⊢
        exact ma_tr_c (ma_go_c K) _ c1 hc h
      have fin : ∀ n2 sl2 b2, gPo n1 b1 w u1 pl1 N BN tb bd r n2 sl2 b2 → ∀ o6, mi_W d 197 139 [some (.ref 505), some (.ref p0), some (.ref (pl w)), some (.int l4), some (.int (Int32.ofNat m)), o6] [.int (Int32.ofNat r.1)] (n2, sl2, hd b2 f0) Q := by
        intro n2 sl2 b2 hP o6
        have hn2 : n1 ≤ n2 := hP.elim (fun _ h => h.elim (fun _ h => h.2.2.2.2.1))
        have h2 : r.1 ≤ 2 := hP.elim (fun _ h => h.elim (fun _ h => h.2.2.2.2.2.2.2))
        by_cases h0 : r.1 = 0
        · rw [if_pos h0] at KK
          obtain ⟨u2, pl2, hL2⟩ := hL.step hP h0 (hrc h0)
          have hrow2 := hL2.1.1.1.2.1 m hmN
          have w12 : b2.I 529 m = mz_lk (tb m).2.2.2.2.2.2.2.1 := hrow2.2.2.2.2.2.2.2.2.2.2.2.2.1 (by rcases ho with h | h | h <;> rw [h] <;> decide)
          rw [h0]
          refine b_197_139 _ _ _ ?_ ?_
          · intro z139
            refine b_197_149 _ _ _ _ _ _ (by first | (exact hd_9) | assumption) (by omega) (by exact mL_get (by decide)) (by first | (exact hd_I (by omega) rfl) | assumption) (Or.inl (by omega)) (by first | assumption | (exact ix_of (by omega) (by omega)) | (exact ⟨by decide, rfl, by decide⟩)) ?_
            rw [w12]
            exact ih m _ n2 sl2 b2 u2 pl2 _ _ hlz hL2 KK
          · intro z139
            exact absurd rfl z139
        · rw [if_neg h0] at KK
          refine b_197_139 _ _ _ ?_ ?_
          · intro z139
            exact absurd ((of_eq (b := 0) (by omega) (by omega)).mp z139) h0
          · intro z139
            refine b_197_146 _ _ _ ?_
            exact KK n2 sl2 b2 (hL.fin hP)
      rw [mz_lk0 hm0]
      subst hd1
      by_cases h8 : (tb m).1 = 8
      · have hA : (tb m).2.1 < 8 := had.1 (by rw [h8]; decide)
        rcases hcm : tb m with ⟨op, A, B, D, uu, xx, yy, zz, M, F⟩
        have h8' := h8
        rw [hcm] at h8'
        dsimp only at h8'
        subst h8'
        have w14 : b1.I 530 m = Int32.ofNat F := by
          have := (hT.1.2.1 m hmN).2.2.2.2.2.2.2.2.2.2.2.2.2.2
          rw [hcm] at this
          exact this (show mz_t 13 8 = true by decide)
        refine b_197_103 _ _ _ ?_ ?_
        · intro z103
          exact absurd z103 (of_nn (by omega))
        · intro z103
          refine b_197_108 _ _ _ _ _ _ (by first | (exact hd_9) | assumption) (by omega) (by exact mL_get (by decide)) (by first | (exact hd_I (by omega) rfl) | assumption) (Or.inl (by omega)) (by first | assumption | (exact ix_of (by omega) (by omega)) | (exact ⟨by decide, rfl, by decide⟩)) ?_ ?_
          · intro z108
            exact absurd (by rw [w0, h8]; rfl) z108
          · intro z108
            refine b_197_120 _ _ _ (by first | (exact hd_9) | assumption) (by omega) ?_
            refine b_199_0 _ _ _ _ _ _ (by first | (exact hd_9) | assumption) (by omega) (by exact mL_get (by decide)) (by first | (exact hd_I (by omega) rfl) | assumption) (Or.inl (by omega)) (by first | assumption | (exact ix_of (by omega) (by omega)) | (exact ⟨by decide, rfl, by decide⟩)) ?_
            rw [w14, ← hplw]
            refine g_numbers (n := n1) (b := b1) (u := u1) (pl := pl1) (a := 0) (t := M) IG hw hS hNd hNB hm0 hmN hA hcm (by omega) hwu n1 sl1 b1 u1 pl1 c1 _ _ _ (by omega) (gLc.rf hC hSt hp0n hp0 hwu hc) (fun n2 sl2 b2 hP => ?_)
            have e8 : ma_tr tb bd (ma_go tb bd K) S (ma_cl bd m M F (ma_tt bd M F - ma_tt bd 0 F) (ma_tt bd 0 F)) c1 = r := by
              rw [← hr, hcm, ma_ac_8]
              rfl
            rw [e8] at hP ⊢
            rw [hplw]
            refine b_197_128 _ _ _ ?_
            exact fin n2 sl2 b2 hP _
      · skip
        refine b_197_103 _ _ _ ?_ ?_
        · intro z103
          exact absurd z103 (of_nn (by omega))
        · intro z103
          refine b_197_108 _ _ _ _ _ _ (by first | (exact hd_9) | assumption) (by omega) (by exact mL_get (by decide)) (by first | (exact hd_I (by omega) rfl) | assumption) (Or.inl (by omega)) (by first | assumption | (exact ix_of (by omega) (by omega)) | (exact ⟨by decide, rfl, by decide⟩)) ?_ ?_
          · intro z108
            refine b_197_131 _ _ _ (by first | (exact hd_9) | assumption) (by omega) ?_
            rw [← hplw]
            refine g_one IG hw hwu hc hC hSt hp0n hp0 hS hNd hNB hm0 ha h8 (by omega) (fun n2 sl2 b2 hP => ?_)
            rw [hr] at hP ⊢
            rw [hplw]
            exact fin n2 sl2 b2 hP _
          · intro z108
            exact absurd ((of_eq (b := 8) (by omega) (by omega)).mp (w0.symm.trans (Classical.not_not.mp z108))) h8
end
