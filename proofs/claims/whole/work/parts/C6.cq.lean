/-! the first object: end, whole -/
def cE (a a' : mh_A) : Prop := a'.R = a.R ∧ a'.I 1 1 1 = 0 ∧ a'.I 6 35 5 = 0 ∧ a'.AI 1 1 0 = a.AI 1 1 0 ∧ ∀ c p k, 4 < c → ¬ (c = 9 ∧ p = 497) → (¬ (c = 6 ∧ p = 35 ∧ k = 5) → a'.I c p k = a.I c p k) ∧ a'.L c p k = a.L c p k ∧ a'.AI c p k = a.AI c p k ∧ a'.AL c p k = a.AL c p k
def cE1 (a : mh_A) : mh_A := ((a.sI 1 1 1 0).sI 6 35 5 0).sI 0 0 9 0
section
variable {d e n sl m fd : Nat} {a a0 a1 a' : mh_A} {σ σ0 σ1 : ms_S} {f0 : Nat → mi_C} {Q : (Option Value ⊕ Nat) → mi_H → Prop} {g : Nat → Int32} {L : Nat} {x : Int32}
theorem cE1_I {c p k : Nat} (hc : 4 < c) (h6 : ¬ (c = 6 ∧ p = 35 ∧ k = 5)) : (cE1 a).I c p k = a.I c p k := by
  unfold cE1 mh_A.sI mh_A.I
  dsimp only
  rw [mh_u_c (by omega)]
  by_cases e : c = 6 ∧ k = 5
  · rw [mh_u_p (fun e' => h6 ⟨e.1, e', e.2⟩), mh_u_c (by omega)]
  · by_cases e6 : c = 6
    · rw [mh_u_k (fun e' => e ⟨e6, e'⟩), mh_u_c (by omega)]
    · rw [mh_u_c e6, mh_u_c (by omega)]
theorem cE.of (h : cF (cE1 a) a') : cE a a' := by
  refine ⟨h.2.1, h.2.2.1.trans rfl, ((h.1 6 35 5 (by decide)).1).trans rfl, h.2.2.2, fun c p k hc _ => ⟨fun h6 => ((h.1 c p k (Or.inr hc)).1).trans (cE1_I hc h6), (h.1 c p k (Or.inr hc)).2.1, (h.1 c p k (Or.inr hc)).2.2.1, (h.1 c p k (Or.inr hc)).2.2.2⟩⟩
theorem ce_end (hG : cG n sl f0) (hoc : a.AI 1 1 0 = g) (hfd : a.I 1 1 1 = Int32.ofNat fd) (hfd2 : fd ≤ 8200) (K1 : (x < 0 ∨ 8192 < x ∨ ¬ x ≤ a.I 1 1 1) → Q (.inr n) (n + 1, sl + 6, hc a (va_up f0 n (.inr (14, []))))) (K2 : ∀ L w a', x = Int32.ofNat L → L ≤ 8192 → L ≤ fd → ((w < L ∧ ms_fb (g w) ∧ ∀ j, j < w → ¬ ms_fb (g j)) ∨ (∀ j, j < L → ¬ ms_fb (g j)) ∧ ms_read g L = .error w) → cE a a' → a'.I 3 15 6 = Int32.ofNat w → a'.I 0 0 9 = 0 → Q (.inr n) (n + 1, sl + 6, hc a' (va_up f0 n (.inr (15, []))))) (K3 : ∀ L σ a', x = Int32.ofNat L → L ≤ 8192 → L ≤ fd → (∀ j, j < L → ¬ ms_fb (g j)) → ms_read g L = .ok ((), σ) → cst a' g L σ → crg 0 σ.n a' σ.tb → a'.AI 2 3 7 0 = Int32.ofNat σ.n → 0 < σ.n → cS0 a' 497 → cE a a' → a'.I 3 15 6 = -1 → a'.I 0 0 9 = 1 → Q (.inl (some (.int (Int32.ofNat σ.n)))) (n, sl, hc a' f0)) : mi_W (e + 213) 17 0 (mi_en 2 [.ref 0, .int x]) [] (n, sl, hc a f0) Q := by
  have hn := hG.1
  have hN := hG.2.1
  refine b_17_0 _ _ _ ?_ ?_
  · intro z0
    refine b_17_22 _ _ _ (mi_tq_ok (ce := 14) (by decide +kernel) (by omega) (by omega)) ?_
    refine hw_Q (hc_out (by omega)) ?_
    exact K1 (by first | exact Or.inl z0 | exact Or.inr (Or.inl z4) | exact Or.inr (Or.inr z11))
  · intro z0
    refine b_17_4 _ _ _ ?_ ?_
    · intro z4
      refine b_17_22 _ _ _ (mi_tq_ok (ce := 14) (by decide +kernel) (by omega) (by omega)) ?_
      refine hw_Q (hc_out (by omega)) ?_
      exact K1 (by first | exact Or.inl z0 | exact Or.inr (Or.inl z4) | exact Or.inr (Or.inr z11))
    · intro z4
      refine b_17_11 _ _ _ (by first | (exact hc_o (by first | assumption | (exact ⟨by decide, rfl⟩))) | assumption | (exact (hc_far (by omega)).trans (by assumption))) (by omega) (by first | rfl | assumption) (by first | (exact hc_o (by first | assumption | (exact ⟨by decide, rfl⟩))) | assumption | (exact (hc_far (by omega)).trans (by assumption))) (by omega) (by first | rfl | assumption) ?_ ?_
      · intro z11
        obtain ⟨L, rfl, hL⟩ : ∃ L : Nat, x = Int32.ofNat L ∧ L ≤ 8192 := by
          have h1 : 0 ≤ x.toInt := by
            rw [Int32.lt_iff_toInt_lt] at z0
            exact Int.not_lt.mp z0
          have h2 : x.toInt ≤ 8192 := by
            rw [Int32.lt_iff_toInt_lt] at z4
            exact Int.not_lt.mp z4
          exact ⟨x.toInt.toNat, i_of h1, by omega⟩
        have hLf : L ≤ fd := (i_le rfl hfd (by omega) (by omega)).mp z11
        refine b_17_32 _ _ _ (by first | (exact hc_o (by first | assumption | (exact ⟨by decide, rfl⟩))) | assumption | (exact (hc_far (by omega)).trans (by assumption))) (by omega) (by first | rfl | assumption) (by first | (exact hc_o (by first | assumption | (exact ⟨by decide, rfl⟩))) | assumption | (exact (hc_far (by omega)).trans (by assumption))) (by omega) (Nat.le_of_ble_eq_true rfl) (by first | (exact (congrFun (hw_I (by first | assumption | (exact ⟨by decide, rfl⟩)) (by decide)) _).trans (hc_o (by first | assumption | (exact ⟨by decide, rfl⟩)))) | assumption | (exact (hc_far (by omega)).trans (by assumption))) (by omega) (by first | rfl | assumption) (by first | (exact (congrFun (hw_I (by first | assumption | (exact ⟨by decide, rfl⟩)) (by decide)) _).trans (hc_o (by first | assumption | (exact ⟨by decide, rfl⟩)))) | assumption | (exact (hc_far (by omega)).trans (by assumption))) (by omega) (Nat.le_of_ble_eq_true rfl) (by first | (exact (congrFun (hw_2 (hw_I (by first | assumption | (exact ⟨by decide, rfl⟩)) (by decide)) (hw_I (by first | assumption | (exact ⟨by decide, rfl⟩)) (by decide))) _).trans (hc_o (by first | assumption | (exact ⟨by decide, rfl⟩)))) | assumption | (exact (hc_far (by omega)).trans (by assumption))) (by omega) (Nat.le_of_ble_eq_true rfl) (by first | assumption | (exact mL_get (by decide)) | (rw [mL_len]; decide) | (simp only [mL_set]; exact mL_get (by decide)) | (simp only [mL_set, mL_len]; decide) | (exact va_eq) | (exact (va_ne (by omega)).trans (by assumption)) | (exact (va_ne (by omega)).trans va_eq) | (exact (va_ne (by omega)).trans ((va_ne (by omega)).trans (by assumption))) | (exact (va_ne (by omega)).trans ((va_ne (by omega)).trans ((va_ne (by omega)).trans (by assumption)))) | rfl | (exact Or.inl rfl) | (exact Or.inr rfl) | omega | (exact Nat.le_of_ble_eq_true rfl) | decide | (exact ⟨by decide, rfl, by decide⟩)) (by first | (exact (congrFun (hw_2 (hw_2 (hw_I (by first | assumption | (exact ⟨by decide, rfl⟩)) (by decide)) (hw_I (by first | assumption | (exact ⟨by decide, rfl⟩)) (by decide))) (hw_I (by first | assumption | (exact ⟨by decide, rfl⟩)) (by decide))) _).trans (hc_o (by first | assumption | (exact ⟨by decide, rfl⟩)))) | assumption | (exact (hc_far (by omega)).trans (by assumption))) (by omega) (by first | rfl | assumption) (by first | (exact (congrFun (hw_2 (hw_2 (hw_I (by first | assumption | (exact ⟨by decide, rfl⟩)) (by decide)) (hw_I (by first | assumption | (exact ⟨by decide, rfl⟩)) (by decide))) (hw_I (by first | assumption | (exact ⟨by decide, rfl⟩)) (by decide))) _).trans (hc_o (by first | assumption | (exact ⟨by decide, rfl⟩)))) | assumption | (exact (hc_far (by omega)).trans (by assumption))) (by omega) ?_
        refine hw_W (hw_2 (hw_2 (hw_I (by first | assumption | (exact ⟨by decide, rfl⟩)) (by decide)) (hw_I (by first | assumption | (exact ⟨by decide, rfl⟩)) (by decide))) (hw_I (by first | assumption | (exact ⟨by decide, rfl⟩)) (by decide))) ?_
        show mi_W _ _ _ _ _ (n, sl, hc (cE1 a) f0) _
        have hmk : ∀ w, ((w < L ∧ ms_fb (g w) ∧ ∀ j, j < w → ¬ ms_fb (g j)) ∨ (∀ j, j < L → ¬ ms_fb (g j)) ∧ ms_read g L = .error w) → cEr n sl f0 Q (cE1 a) w := fun w hw a' hF h6 => K2 L w a' rfl hL hLf hw (cE.of hF) h6 ((hF.1 0 0 9 (by decide)).1.trans rfl)
        have hoc1 : (cE1 a).AI 1 1 0 = g := hoc
        have hE : ∀ a', cF (cE1 a) a' → cE a a' := fun a' h => cE.of h
        generalize cE1 a = a1 at *
        refine cr_begin (d := e + 204) hG hL hoc1 (fun i hi hb hno => ?_) (fun hno a2 h2 hF2 hw2 => ?_)
        · exact cEr.kc (by decide +kernel) (by omega) (hmk i (Or.inl ⟨hi, hb, hno⟩))
        · refine b_17_61 _ _ _ (by first | (exact hc_o (by first | assumption | (exact ⟨by decide, rfl⟩))) | assumption | (exact (hc_far (by omega)).trans (by assumption))) (by omega) (by first | rfl | assumption) (by first | (exact hc_o (by first | assumption | (exact ⟨by decide, rfl⟩))) | assumption | (exact (hc_far (by omega)).trans (by assumption))) (by omega) ?_
          refine co_C hG 100 (Nat.le_refl _) (e + 212) a2 (ms_s0 g L) _ (by omega) h2 (fun a3 σ3 hok h3 g3 r3 e7 hlt => ?_) (fun w hw => ?_)
          · have hw3 : a3.I 3 15 6 = -1 := g3.2.2.2.trans hw2
            have hrd : ms_read g L = if σ3.t.k = 39 then .ok ((), σ3) else .error σ3.t.a := by unfold ms_read; rw [hok]; rfl
            refine b_17_69 _ _ _ (by first | (exact hc_o (by first | assumption | (exact ⟨by decide, rfl⟩))) | assumption | (exact (hc_far (by omega)).trans (by assumption))) (by omega) (by first | rfl | assumption) (by first | (exact hc_o (by first | assumption | (exact ⟨by decide, rfl⟩))) | assumption | (exact (hc_far (by omega)).trans (by assumption))) (by omega) ?_
            refine cr_fin (d := e + 210) hG h3 (fun hk => ?_) (fun hk => ?_)
            · rw [if_pos hk] at hrd
              refine b_17_77 _ _ _ (by first | (exact hc_o (by first | assumption | (exact ⟨by decide, rfl⟩))) | assumption | (exact (hc_far (by omega)).trans (by assumption))) (by omega) (Nat.le_of_ble_eq_true rfl) (by first | assumption | (exact mL_get (by decide)) | (rw [mL_len]; decide) | (simp only [mL_set]; exact mL_get (by decide)) | (simp only [mL_set, mL_len]; decide) | (exact va_eq) | (exact (va_ne (by omega)).trans (by assumption)) | (exact (va_ne (by omega)).trans va_eq) | (exact (va_ne (by omega)).trans ((va_ne (by omega)).trans (by assumption))) | (exact (va_ne (by omega)).trans ((va_ne (by omega)).trans ((va_ne (by omega)).trans (by assumption)))) | rfl | (exact Or.inl rfl) | (exact Or.inr rfl) | omega | (exact Nat.le_of_ble_eq_true rfl) | decide | (exact ⟨by decide, rfl, by decide⟩)) (by first | (exact (congrFun (hw_I (by first | assumption | (exact ⟨by decide, rfl⟩)) (by decide)) _).trans (hc_o (by first | assumption | (exact ⟨by decide, rfl⟩)))) | assumption | (exact (hc_far (by omega)).trans (by assumption))) (by omega) (by first | rfl | assumption) (by first | (exact (congrFun (hw_I (by first | assumption | (exact ⟨by decide, rfl⟩)) (by decide)) _).trans (hc_o (by first | assumption | (exact ⟨by decide, rfl⟩)))) | assumption | (exact (hc_far (by omega)).trans (by assumption))) (by omega) ?_
              refine hw_W (hw_I (by first | assumption | (exact ⟨by decide, rfl⟩)) (by decide)) ?_
              refine cs_beg (d := e + 211) hn (fun a4 h4 hF4 => ?_)
              refine b_17_89 _ _ _ (by first | (exact hc_o (by first | assumption | (exact ⟨by decide, rfl⟩))) | assumption | (exact (hc_far (by omega)).trans (by assumption))) (by omega) (by first | rfl | assumption) (by first | (exact hc_o (by first | assumption | (exact ⟨by decide, rfl⟩))) | assumption | (exact (hc_far (by omega)).trans (by assumption))) (by omega) (by first | rfl | assumption) ?_
              have hE3 := hE a3 (hF2.trans g3.1)
              have f4 := hF4.2
              have h11 : a4.I 2 3 11 = Int32.ofNat σ3.n := (f4 2 3 11 (by decide)).1.trans h3.2.1.1
              rw [h11]
              have cT4 : ∀ p M c S W o, cn_T a3 p M L c S W o → cn_T a4 p M L c S W o := by
                intro p M c S W o h
                obtain ⟨t1, t2, t3, t4, t5, t6, t7, t8, t9⟩ := h
                refine ⟨t1, t2, t3, t4, t5, (f4 4 p 4 (fun z => absurd z.1 (by decide))).1.trans t6, t7, t8, fun i hi => ?_⟩
                rw [(f4 4 p 1 (fun z => absurd z.1 (by decide))).2.2.1, (f4 4 p 2 (fun z => absurd z.1 (by decide))).2.2.1, (f4 4 p 3 (fun z => absurd z.1 (by decide))).2.2.1]
                exact t9 i hi
              obtain ⟨⟨s1, s2, s3, s4, s5, s6, s7, s8⟩, ⟨s9, s10⟩, ⟨s11, s12, s13⟩, s14, s15, s16, s17, s18⟩ := h3
              refine K3 L σ3 a4 rfl hL hLf hno hrd ⟨⟨(f4 1 1 6 (by decide)).1.trans s1, s2, fun k hk => by rw [(f4 1 1 0 (by decide)).2.2.1]; exact s3 k hk, (f4 1 1 2 (by decide)).1.trans s4, (f4 1 1 3 (by decide)).1.trans s5, (f4 1 1 4 (by decide)).1.trans s6, fun h => (f4 1 1 5 (by decide)).2.1.trans (s7 h), s8⟩, ⟨h11, s10⟩, ⟨(f4 2 3 12 (by decide)).1.trans s11, s12, fun i hi => by rw [(f4 2 3 10 (by decide)).2.2.2]; exact s13 i hi⟩, cT4 _ _ _ _ _ _ s14, cT4 _ _ _ _ _ _ s15, cT4 _ _ _ _ _ _ s16, cT4 _ _ _ _ _ _ s17, s18⟩ (r3.to (fun m _ _ => ⟨fun k _ => by rw [(f4 2 3 k (by decide)).2.2.1]; rfl, by rw [(f4 2 3 9 (by decide)).2.2.2]; rfl⟩) (fun _ _ _ => rfl)) (by rw [(f4 2 3 7 (by decide)).2.2.1]; exact e7) hlt h4 ?_ ((f4 3 15 6 (by decide)).1.trans hw3) ((f4 0 0 9 (by decide)).1.trans rfl)
              refine ⟨hF4.1.trans hE3.1, (f4 1 1 1 (by decide)).1.trans hE3.2.1, (f4 6 35 5 (by decide)).1.trans hE3.2.2.1, (f4 1 1 0 (by decide)).2.2.1.trans hE3.2.2.2.1, fun c p k hc h9 => ?_⟩
              have q := hE3.2.2.2.2 c p k hc h9
              have f := f4 c p k h9
              exact ⟨fun h6 => f.1.trans ((show mh_u a3.I 0 0 9 1 c p k = a3.I c p k from mh_u_c (by omega)).trans (q.1 h6)), f.2.1.trans q.2.1, f.2.2.1.trans q.2.2.1, f.2.2.2.trans q.2.2.2⟩
            · exact cEr.kc (by decide +kernel) (by omega) ((hmk _ (Or.inr ⟨hno, by rw [hrd, if_neg hk]⟩)).go (hF2.trans g3.1))
          · exact cEr.kc (by decide +kernel) (by omega) ((hmk w (Or.inr ⟨hno, by unfold ms_read; rw [hw]; rfl⟩)).go hF2)
      · intro z11
        refine b_17_22 _ _ _ (mi_tq_ok (ce := 14) (by decide +kernel) (by omega) (by omega)) ?_
        refine hw_Q (hc_out (by omega)) ?_
        exact K1 (by first | exact Or.inl z0 | exact Or.inr (Or.inl z4) | exact Or.inr (Or.inr z11))
end
