/-! the second object: a transaction -/
/-- what a transaction leaves as it is, from its very beginning -/
def gTf (p : Nat) (b b' : mg_A) : Prop := (b'.s = b.s ∧ b'.B = b.B ∧ b'.D = b.D) ∧ (∀ q, q < 505 ∨ (505 < q ∧ q < 543) ∨ 547 < q → b'.I q = b.I q) ∧ (∀ q, q < 505 ∨ (505 < q ∧ q < 548) ∨ 549 < q → b'.J q = b.J q) ∧ (∀ j, ¬ j = 46 → ¬ j = 47 → ¬ j = 48 → ¬ j = 58 → b'.I 505 j = b.I 505 j) ∧ (∀ j, ¬ j = 44 → ¬ j = 45 → b'.J 505 j = b.J 505 j) ∧ ∀ k r, ¬ r = p → b'.P k r = b.P k r ∧ b'.L k r = b.L k r
section
variable {d e n sl N BN : Nat} {b b0 b1 b2 : mg_A} {f0 : Nat → mi_C} {Q : (Option Value ⊕ Nat) → mi_H → Prop} {p q i j c k kk r m many : Nat} {tb : Nat → ms_N} {lo hi v u : Int64} {Z Z' : mv_Z} {S : mv_S} {wal : Bool} {bd : Nat → Int64 × Int64} {ins : Nat → mv_I} {w : Nat → Int64} {o6 : Option Value}
theorem gTf.of (h : gMf p b b1) : gTf p b b1 := ⟨h.1, h.2.1, fun q hq => h.2.2.1 q (by omega), h.2.2.2.1, fun j _ _ => congrFun (h.2.2.1 505 (by decide)) j, h.2.2.2.2⟩
theorem gTf.trans (h : gTf p b b1) (h' : gTf p b1 b2) : gTf p b b2 := ⟨⟨h'.1.1.trans h.1.1, h'.1.2.1.trans h.1.2.1, h'.1.2.2.trans h.1.2.2⟩, fun q hq => (h'.2.1 q hq).trans (h.2.1 q hq), fun q hq => (h'.2.2.1 q hq).trans (h.2.2.1 q hq), fun j h1 h2 h3 h4 => (h'.2.2.2.1 j h1 h2 h3 h4).trans (h.2.2.2.1 j h1 h2 h3 h4), fun j h1 h2 => (h'.2.2.2.2.1 j h1 h2).trans (h.2.2.2.2.1 j h1 h2), fun k r hr => ⟨(h'.2.2.2.2.2 k r hr).1.trans (h.2.2.2.2.2 k r hr).1, (h'.2.2.2.2.2 k r hr).2.trans (h.2.2.2.2.2 k r hr).2⟩⟩
theorem gTf.sY {x : Int64} (h : gTf p b0 b) (hk : k = 44 ∨ k = 45) : gTf p b0 (b.sY k x) := ⟨h.1, h.2.1, fun q' hq' => (va_ne (by omega)).trans (h.2.2.1 q' hq'), h.2.2.2.1, fun j e1 e2 => (congrFun (va_eq (f := b.J) (k := 505)) j).trans ((va_ne (by omega)).trans (h.2.2.2.2.1 j e1 e2)), h.2.2.2.2.2⟩
theorem gTf.sL {g : Nat → Int64} (h : gTf p b0 b) : gTf p b0 (b.sL k p g) := h.trans (gTf.of gMf.re.sL)
theorem gBd.tf (h : gBd b BN bd tb) (f : gTf p b b1) : gBd b1 BN bd tb := by
  unfold gBd
  rw [f.2.2.1 518 (by decide), f.2.2.1 519 (by decide)]
  exact h
theorem gIn.tf {I : mv_I} (h : gIn b k I) (f : gTf p b b1) : gIn b1 k I := by
  have e : ∀ q, 547 < q → b1.I q = b.I q := fun q hq => f.2.1 q (Or.inr (Or.inr hq))
  unfold gIn
  rw [e 551 (by decide), e 552 (by decide), e 553 (by decide), e 554 (by decide), f.2.2.1 555 (by decide)]
  exact h
theorem sJ2 {g g' : Nat → Int64} : (b.sJ q g).sJ q g' = b.sJ q g' := by
  unfold mg_A.sJ mg_A.J
  dsimp only
  rw [va_up_up]
theorem sJ_self : b.sJ q (b.J q) = b := by
  have e : va_up b.J q (b.J q) = b.J := by
    funext i
    by_cases h : i = q
    · rw [h, va_eq]
    · rw [va_ne h]
  unfold mg_A.sJ
  rw [e]
  rfl
theorem J_at {g : Nat → Int64} : (b.sJ q g).J q = g := va_eq
theorem g_z {l4 : Int32} (hn : 575 ≤ n) (K : ∀ g l5, (∀ j, j < 32 → g j = 0) → mi_W d 174 39 [some (.ref 505), some (.long u), none, some (.long v), none, some (.int l4), some (.int l5), o6] [] (n, sl, hd (b.sJ 549 g) f0) Q) : ∀ (t k : Nat) (g : Nat → Int64), k + t = 32 → (∀ j, j < k → g j = 0) → mi_W d 174 18 [some (.ref 505), some (.long u), none, some (.long v), none, some (.int l4), some (.int (Int32.ofNat k)), o6] [] (n, sl, hd (b.sJ 549 g) f0) Q := by
  intro t
  induction t with
  | zero =>
    intro k g hk hg
    refine b_174_18 _ _ _ ?_ ?_
    · intro z18
      exact K g _ (fun j hj => hg j (by omega))
    · intro z18
      exact absurd ((i_le (a := 32) rfl rfl (by omega) (by omega)).mpr (by omega)) z18
  | succ t ih =>
    intro k g hk hg
    have hix := ix_of (w := k) (m := 32) (by omega) (by omega)
    refine b_174_18 _ _ _ ?_ ?_
    · intro z18
      exact absurd ((i_le (a := 32) rfl rfl (by omega) (by omega)).mp z18) (by omega)
    · intro z18
      refine b_174_25 _ _ _ _ _ _ (by first | (exact hd_9) | assumption) (by omega) (by exact mL_get (by decide)) (by first | (exact hd_J (by omega) rfl) | (exact hd_L1 (by assumption)) | (exact hd_L2 (by assumption)) | (exact hd_L3 (by assumption)) | assumption) (by omega) (by first | assumption | (exact ix_of (by omega) (by omega)) | (exact ⟨by decide, rfl, by decide⟩)) ?_
      refine hw_W ((by first | exact gw_J (by omega) rfl | exact gw_L1 (by assumption) | exact gw_L2 (by assumption) | exact gw_L3 (by assumption))) ?_
      rw [of_succ, J_at, sJ2]
      refine ih (k + 1) _ (by omega) (fun j hj => ?_)
      by_cases e : j = k
      · rw [e, upL_at]
      · rw [upL_ne e]
        exact hg j (by omega)
theorem g_113e {l4 l6 : Int32} {x : Nat} (hx1 : 1 ≤ x) (hx7 : x ≤ 7) (K : Q (.inl (some (.int (Int32.ofNat x)))) (n, sl, hd b f0)) : mi_W d 174 113 [some (.ref 505), some (.long u), none, some (.long v), none, some (.int l4), some (.int (Int32.ofNat x)), some (.int l6)] [] (n, sl, hd b f0) Q := by
  have hx := of_17 hx1 hx7
  refine b_174_113 _ _ _ ?_ ?_
  · intro z113
    refine b_174_150 _ _ _ ?_ ?_
    · intro z150
      exact absurd z150 hx
    · intro z150
      refine b_174_155 _ _ _ ?_
      refine b_174_177 _ _ _ ?_
      exact K
  · intro z113
    refine b_174_120 _ _ _ ?_ ?_
    · intro z120
      refine b_174_150 _ _ _ ?_ ?_
      · intro z150
        exact absurd z150 hx
      · intro z150
        refine b_174_155 _ _ _ ?_
        refine b_174_177 _ _ _ ?_
        exact K
    · intro z120
      exact absurd (Classical.not_not.mp z120) hx
theorem g_insl (hn : 575 ≤ n) (hmany : many ≤ 16) (hbd : ∀ j, mv_in (bd j).1 ∧ mv_in (bd j).2) : ∀ (t k kk : Nat) (b : mg_A) (Z : mv_Z), k + t = many → mv_J tb N kk Z → gM n b p N tb lo hi wal Z → (∃ bb, b.I 505 58 = cfl bb) → gBd b BN bd tb → (∀ j, j < many → gIn b j (ins j)) → (∀ b' Z' k', mv_ins tb bd wal lo hi ins t k Z = .ok Z' → gMf p b b' → gM n b' p N tb lo hi wal Z' → mv_J tb N k' Z' → k' ≤ kk → (t = 0 → b' = b) → mi_W (e + 105) 174 150 [some (.ref 505), some (.long u), none, some (.long v), none, some (.int (Int32.ofNat many)), some (.int 0), some (.int (Int32.ofNat many))] [] (n, sl, hd b' f0) Q) → (∀ b' x, mv_ins tb bd wal lo hi ins t k Z = .error x → 1 ≤ x → x ≤ 7 → gMf p b b' → Q (.inl (some (.int (Int32.ofNat x)))) (n, sl, hd b' f0)) → mi_W (e + 105) 174 113 [some (.ref 505), some (.long u), none, some (.long v), none, some (.int (Int32.ofNat many)), some (.int 0), some (.int (Int32.ofNat k))] [] (n, sl, hd b f0) Q := by
  intro t
  induction t with
  | zero =>
    intro k kk b Z hk hJ h hb58 hb hI Kok Ker
    have hkm : k = many := by omega
    subst hkm
    refine b_174_113 _ _ _ ?_ ?_
    · intro z113
      exact Kok b Z kk rfl gMf.re h hJ (Nat.le_refl _) (fun _ => rfl)
    · intro z113
      exact absurd (Int32.le_refl _) z113
  | succ t ih =>
    intro k kk b Z hk hJ h hb58 hb hI Kok Ker
    have ht := h.2.2.1.2.2
    obtain ⟨bb, hbb⟩ := hb58
    have hmk := mz_ok_le hJ.2.2.2.1 hJ.2.2.1
    have hu : mv_ins tb bd wal lo hi ins (t + 1) k Z = (match mv_take tb bd wal lo hi (ins k) Z with | .error e => .error e | .ok Z1 => match mv_red tb lo hi 148 false Z1 with | .error e => .error e | .ok (_, Z2) => mv_ins tb bd wal lo hi ins t (k + 1) Z2) := rfl
    refine b_174_113 _ _ _ ?_ ?_
    · intro z113
      exact absurd ((i_le rfl rfl (by omega) (by omega)).mp z113) (by omega)
    · intro z113
      refine b_174_120 _ _ _ ?_ ?_
      · intro z120
        exact absurd rfl z120
      · intro z120
        refine b_174_125 _ _ _ (by first | (exact hd_9) | assumption) (by omega) ?_
        refine g_take (e := e) hn h hJ.1 (by have := hJ.2.2.2.2.1; omega) hmk (by omega) hb (hI k (by omega)) (fun b1 Z1 hz1 f1 k1 e1 => ?_) (fun b1 x hx f1 => ?_)
        · rw [hz1] at hu
          dsimp only at hu
          obtain ⟨kk1, J1, hlt⟩ := mv_take_J hJ hbd hz1
          refine b_174_131 _ _ _ ?_ ?_
          · intro z131
            first | (exact absurd z131 (by decide)) | (exact absurd (by decide) z131) | (exact absurd rfl z131) | (exact absurd z131 (of_nn (by omega))) | (exact absurd (of_np (by omega)) z131) | omega
          · intro z131
            refine b_174_138 _ _ _ (by first | (exact hd_9) | assumption) (by omega) ?_
            refine g_red (e := e + 1) (bb := bb) hn ht J1 k1 (e1.trans hbb) (fun b2 bb2 Z2 hz2 f2 k2 e2 => ?_) (fun b2 x hx f2 => ?_)
            · obtain ⟨b3, hz3⟩ := (mv_red_b (x := 0) 148 bb false Z1).1 _ _ hz2
              rw [hz3] at hu
              dsimp only at hu
              obtain ⟨kk2, J2, -, d2⟩ := mv_red_J ht 148 bb kk1 Z1 J1 hz2
              have hkk : kk2 ≤ kk1 := by rcases d2 with d | ⟨d, -⟩ <;> omega
              refine b_174_142 _ _ _ ?_
              refine b_174_144 _ _ _ ?_
              rw [of_succ]
              exact ih (k + 1) kk2 b2 Z2 (by omega) J2 k2 ⟨_, e2⟩ (hb.mf (f1.trans f2)) (fun j hj => (hI j hj).mf (f1.trans f2)) (fun b' Z' k' hz f' m' J' l' _ => Kok b' Z' k' (hu.trans hz) ((f1.trans f2).trans f') m' J' (by omega) (fun h => by omega)) (fun b' x hx h1 h7 f' => Ker b' x (hu.trans hx) h1 h7 ((f1.trans f2).trans f'))
            · have hx' := (mv_red_b 148 bb false Z1).2 hx
              rw [hx'] at hu
              dsimp only at hu
              have hx17 := mv_red_le Z1 hx
              refine b_174_142 _ _ _ ?_
              refine b_174_144 _ _ _ ?_
              exact g_113e hx17.1 hx17.2 (Ker b2 x hu hx17.1 hx17.2 (f1.trans f2))
        · rw [hx] at hu
          dsimp only at hu
          have hx17 := mv_take_le hx
          have hxne := of_17 hx17.1 hx17.2
          refine b_174_131 _ _ _ ?_ ?_
          · intro z131
            refine b_174_144 _ _ _ ?_
            exact g_113e hx17.1 hx17.2 (Ker b1 x hu hx17.1 hx17.2 f1)
          · intro z131
            exact absurd (Classical.not_not.mp z131) hxne
theorem g_run (hn : 575 ≤ n) (hs : mg_S b p S) (hps : b.s = .ref p) (hpn : p + 5 < n) (hT : N ≤ 800 ∧ (∀ m, m < N → gRow b (tb m) m) ∧ mv_tok tb) (hwal : b.I 505 57 = cfl wal) (hlf : wal = true → ∀ j, j < 32 → b.J 550 j = w j) (hS : mv_ok S) (hk : mz_ok tb N kk 0 S.at) (h100 : kk ≤ 100) (hb : gBd b BN bd tb) (hbd : ∀ j, mv_in (bd j).1 ∧ mv_in (bd j).2) (hmany : many ≤ 16) (hI : ∀ j, j < many → gIn b j (ins j)) (Kok : ∀ b' Z' k', mv_run tb bd wal many ins u v (mv_z0 S w) = .ok Z' → gTf p b b' → gM n b' p N tb (mv_lo u S.tm) v wal Z' → mv_J tb N k' Z' → k' ≤ kk → Q (.inl (some (.int 0))) (n, sl, hd b' f0)) (Ker : ∀ b' x, mv_run tb bd wal many ins u v (mv_z0 S w) = .error x → 1 ≤ x → x ≤ 7 → gTf p b b' → Q (.inl (some (.int (Int32.ofNat x)))) (n, sl, hd b' f0)) : mi_W (e + 105) 174 0 (mi_en 8 [.ref 505, .long u, .long v, .int (Int32.ofNat many)]) [] (n, sl, hd b f0) Q := by
  have hpo := hs.1
  have htm : b.L 0 p 0 = S.tm := hs.2.2.1
  have f1 : gTf p b (((b.sX 47 0).sX 48 0).sX 58 0) := gTf.of (((gMf.re.sX (k := 47) (Or.inr (Or.inl rfl))).sX (k := 48) (Or.inr (Or.inr (Or.inl rfl)))).sX (k := 58) (Or.inr (Or.inr (Or.inr rfl))))
  refine b_174_0 _ _ _ (by first | (exact hd_9) | assumption) (by omega) (by rw [mL_len]; decide) (by first | (exact (congrFun (gw_X (by decide)) _).trans (hd_9)) | assumption) (by omega) (by rw [mL_len]; decide) (by first | (exact (congrFun (hw_2 (gw_X (by decide)) (gw_X (by decide))) _).trans (hd_9)) | assumption) (by omega) (by rw [mL_len]; decide) (by first | assumption | (exact mL_get (by decide)) | (rw [mL_len]; decide) | (simp only [mL_set]; exact mL_get (by decide)) | (simp only [mL_set, mL_len]; decide) | (exact va_eq) | (exact (va_ne (by omega)).trans (by assumption)) | (exact (va_ne (by omega)).trans va_eq) | (exact (va_ne (by omega)).trans ((va_ne (by omega)).trans (by assumption))) | (exact (va_ne (by omega)).trans ((va_ne (by omega)).trans ((va_ne (by omega)).trans (by assumption)))) | rfl | (exact Or.inl rfl) | (exact Or.inr rfl) | omega | (exact Nat.le_of_ble_eq_true rfl) | decide | (exact ⟨by decide, rfl, by decide⟩)) ?_
  refine hw_W (hw_2 (hw_2 (gw_X (by decide)) (gw_X (by decide))) (gw_X (by decide))) ?_
  rw [← sJ_self (b := ((b.sX 47 0).sX 48 0).sX 58 0) (q := 549)]
  refine g_z hn (fun g l5 hg => ?_) 32 0 _ rfl (fun j hj => absurd hj (Nat.not_lt_zero j))
  have f2 : gTf p b ((((b.sX 47 0).sX 48 0).sX 58 0).sJ 549 g) := f1.trans (gTf.of (gMf.re.sJ (q := 549) (by decide) (by decide)))
  generalize hb2 : (((b.sX 47 0).sX 48 0).sX 58 0).sJ 549 g = b2 at *
  have hps2 : b2.s = .ref p := f2.1.1.trans hps
  have hpo2 : mg_o b2.D p := by rw [f2.1.2.2]; exact hpo
  have htm2 : b2.L 0 p 0 = S.tm := by rw [← hb2]; exact htm
  have fin : ∀ lo, mv_lo u S.tm = lo → ¬ v < u → ¬ v < S.tm → ∀ s8, s8 = (505 : Nat) → mi_W (e + 105) 174 85 [some (.ref 505), some (.long u), none, some (.long v), none, some (.int (Int32.ofNat many)), some (.int l5), none] [.long lo, .ref s8] (n, sl, hd b2 f0) Q := by
    intro lo hlo h1 h2 s8 hs8
    subst hs8
    rw [mv_run_ok (Z := mv_z0 S w) h1 h2] at Kok Ker
    have e0 : (mv_z0 S w).S.tm = S.tm := rfl
    rw [e0, hlo] at Kok Ker
    have f3 : gTf p b (((b2.sY 44 lo).sY 45 v).sL 0 p (fun _ => lo)) := ((f2.sY (k := 44) (Or.inl rfl)).sY (k := 45) (Or.inr rfl)).sL
    have k3 : gM n (((b2.sY 44 lo).sY 45 v).sL 0 p (fun _ => lo)) p N tb lo v wal ((mv_z0 S w).ti lo) := by
      refine gM.ti ⟨⟨hps2, hpn⟩, ⟨rfl, rfl, ?_⟩, ⟨hT.1, fun m hm => ?_, hT.2.2⟩, ?_, ⟨⟨?_, Nat.zero_le _, fun i hi => absurd hi (Nat.not_lt_zero i)⟩, ⟨?_, Nat.zero_le _, fun i hi => absurd hi (Nat.not_lt_zero i)⟩⟩, fun hw j hj => ?_⟩
      · rw [← hb2]
        exact hwal
      · rw [← hb2]
        exact hT.2.1 m hm
      · rw [← hb2]
        exact hs
      · rw [← hb2]
        rfl
      · rw [← hb2]
        rfl
      · rw [← hb2]
        show b.J 550 j - g j = w j
        rw [hg j hj, Int64.sub_zero]
        exact hlf hw j hj
    have J3 : mv_J tb N kk ((mv_z0 S w).ti lo) := mv_J0 hS hk h100
    have h58 : (((b2.sY 44 lo).sY 45 v).sL 0 p (fun _ => lo)).I 505 58 = cfl false := by
      rw [← hb2]
      rfl
    generalize hb3 : ((b2.sY 44 lo).sY 45 v).sL 0 p (fun _ => lo) = b3 at *
    refine b_174_85 _ _ _ (by first | (exact hd_9) | assumption) (by omega) (by rw [mL_len]; decide) (by first | (exact (congrFun (gw_Y (by decide)) _).trans (hd_9)) | assumption) (by omega) (by rw [mL_len]; decide) (by first | (exact (congrFun (hw_2 (gw_Y (by decide)) (gw_Y (by decide))) _).trans (hd_9)) | assumption) (by omega) (by exact (mL_get (by decide)).trans (congrArg some (by assumption))) (by first | (exact (congrFun (hw_2 (gw_Y (by decide)) (gw_Y (by decide))) _).trans (hd_9)) | assumption) (by omega) (by exact mL_get (by decide)) (by first | (exact (congrFun (hw_2 (gw_Y (by decide)) (gw_Y (by decide))) _).trans (hd_8 (by assumption))) | assumption) (by omega) (Nat.le_of_ble_eq_true rfl) (by first | (exact (congrFun (hw_2 (hw_2 (gw_Y (by decide)) (gw_Y (by decide))) (gw_tm (by assumption))) _).trans (hd_9)) | assumption) (by omega) ?_
    refine hw_W (hw_2 (hw_2 (gw_Y (by decide)) (gw_Y (by decide))) (gw_tm hpo2)) ?_
    rw [show ((b2.sY 44 lo).sY 45 v).J 505 44 = lo from rfl, hb3]
    unfold mv_r2 at Kok Ker
    refine g_red (e := e + 1) (bb := false) hn hT.2.2 J3 k3 h58 (fun b4 bb4 Z4 hz4 f4 k4 e4 => ?_) (fun b4 x hx f4 => ?_)
    · rw [hz4] at Kok Ker
      dsimp only at Kok Ker
      obtain ⟨kk4, J4, -, d4⟩ := mv_red_J hT.2.2 148 false kk _ J3 hz4
      have hkk : kk4 ≤ kk := by rcases d4 with d | ⟨d, -⟩ <;> omega
      have f34 := f3.trans (gTf.of f4)
      refine b_174_108 _ _ _ ?_
      refine g_insl (e := e) (k := 0) (t := many) hn hmany hbd kk4 b4 Z4 (by omega) J4 k4 ⟨_, e4⟩ (hb.tf f34) (fun j hj => (hI j hj).tf f34) (fun b5 Z5 k5 hz5 f5 m5 J5 l5 hb54 => ?_) (fun b5 x hx h1 h7 f5 => ?_)
      · by_cases hm0 : many = 0
        · have hb5 := hb54 hm0
          subst hb5
          cases bb4 with
          | false =>
            rw [if_pos ⟨hm0, rfl⟩] at Ker
            refine b_174_150 _ _ _ ?_ ?_
            · intro z150
              refine b_174_160 _ _ _ ?_ ?_
              · intro z160
                exact absurd (by rw [hm0]; rfl) z160
              · intro z160
                refine b_174_165 _ _ _ (by first | (exact hd_9) | assumption) (by omega) (by exact mL_get (by decide)) ?_ ?_
                · intro z165
                  exact absurd e4 z165
                · intro z165
                  refine b_174_172 _ _ _ ?_
                  refine b_174_177 _ _ _ ?_
                  exact Ker b5 5 rfl (by decide) (by decide) f34
            · intro z150
              exact absurd rfl z150
          | true =>
            rw [if_neg (fun h => Bool.noConfusion h.2)] at Kok
            refine b_174_150 _ _ _ ?_ ?_
            · intro z150
              refine b_174_160 _ _ _ ?_ ?_
              · intro z160
                exact absurd (by rw [hm0]; rfl) z160
              · intro z160
                refine b_174_165 _ _ _ (by first | (exact hd_9) | assumption) (by omega) (by exact mL_get (by decide)) ?_ ?_
                · intro z165
                  refine b_174_176 _ _ _ ?_
                  refine b_174_177 _ _ _ ?_
                  exact Kok b5 Z5 k5 hz5 f34 m5 J5 (by omega)
                · intro z165
                  exact absurd (e4.symm.trans (Classical.not_not.mp z165)) (by decide)
            · intro z150
              exact absurd rfl z150
        · rw [if_neg (fun h => hm0 h.1)] at Kok
          refine b_174_150 _ _ _ ?_ ?_
          · intro z150
            refine b_174_160 _ _ _ ?_ ?_
            · intro z160
              refine b_174_176 _ _ _ ?_
              refine b_174_177 _ _ _ ?_
              exact Kok b5 Z5 k5 hz5 (f34.trans (gTf.of f5)) m5 J5 (by omega)
            · intro z160
              exact absurd ((of_eq (b := 0) (by omega) (by omega)).mp (Classical.not_not.mp z160)) hm0
          · intro z150
            exact absurd rfl z150
      · by_cases hc : many = 0 ∧ bb4 = false
        · rw [hc.1] at hx
          cases hx
        · rw [if_neg hc] at Ker
          exact Ker b5 x hx h1 h7 (f34.trans (gTf.of f5))
    · rw [hx] at Ker
      have hx17 := mv_red_le _ hx
      refine b_174_108 _ _ _ ?_
      exact g_113e hx17.1 hx17.2 (Ker b4 x rfl hx17.1 hx17.2 (f3.trans (gTf.of f4)))
  refine b_174_39 _ _ _ ?_ ?_
  · intro z39
    have hvu := lg_ge.mp z39
    refine b_174_47 _ _ _ (by first | (exact hd_9) | assumption) (by omega) (by exact (mL_get (by decide)).trans (congrArg some (by assumption))) (by first | (exact hd_8 (by assumption)) | assumption) (by omega) (by exact rfl) ?_ ?_
    · intro z47
      rw [htm2] at z47
      have hvt := lg_ge.mp z47
      refine b_174_61 _ _ _ (by first | (exact hd_9) | assumption) (by omega) (by exact (mL_get (by decide)).trans (congrArg some (by assumption))) (by first | (exact hd_8 (by assumption)) | assumption) (by omega) (by exact rfl) ?_ ?_
      · intro z61
        rw [htm2] at z61
        refine b_174_84 _ _ _ ?_
        first | exact fin _ (if_neg (lg_ge.mp z61)) hvu hvt _ rfl | exact fin _ (if_pos (Classical.not_not.mp (fun h => z61 (lg_ge.mpr h)))) hvu hvt _ rfl
      · intro z61
        rw [htm2] at z61
        refine b_174_74 _ _ _ (by first | (exact hd_9) | assumption) (by omega) (by exact (mL_get (by decide)).trans (congrArg some (by assumption))) (by first | (exact hd_8 (by assumption)) | assumption) (by omega) (by exact rfl) ?_
        rw [htm2]
        first | exact fin _ (if_neg (lg_ge.mp z61)) hvu hvt _ rfl | exact fin _ (if_pos (Classical.not_not.mp (fun h => z61 (lg_ge.mpr h)))) hvu hvt _ rfl
    · intro z47
      rw [htm2] at z47
      refine b_174_59 _ _ _ ?_
      refine Ker b2 2 ?_ (by decide) (by decide) f2
      unfold mv_run
      rw [if_neg hvu]
      exact if_pos (Classical.not_not.mp (fun h => z47 (lg_ge.mpr h)))
  · intro z39
    refine b_174_45 _ _ _ ?_
    exact Ker b2 1 (if_pos (Classical.not_not.mp (fun h => z39 (lg_ge.mpr h)))) (by decide) (by decide) f2
end
