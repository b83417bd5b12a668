/-! the second object: inputs, feed -/
section
variable {d e r n sl fd many : Nat} {b b' : mg_A} {f0 : Nat → mi_C} {Q : (Option Value ⊕ Nat) → mi_H → Prop} {oc : Nat → Int32} {wr x y z c what x1 x2 x3 x4 x5 : Int32} {w : Nat → Int64} {ins : Nat → mv_I} {ev : mv_Z} {re : ma_R} {con : Option mx_K} {v : Int64} {I : mv_I}
theorem gq_input (h : gX r n sl b fd oc wr w many ins ev re con) (h00 : b.I 505 0 = 0) (hm : many < 16) (h0 : I.1 = 7 ∨ I.1 = 8 ∨ I.1 = 9) (h1 : what = Int32.ofNat I.1) (h2 : ¬ I.1 = 9 → x = Int32.ofNat I.2.1 ∧ I.2.1 ≤ 800) (h3 : I.1 = 7 → y = Int32.ofNat I.2.2.1 ∧ I.2.2.1 ≤ 800 ∧ z = Int32.ofNat I.2.2.2.1 ∧ I.2.2.2.1 ≤ 800) (hv : v = I.2.2.2.2) (K : ∀ b', gX r n sl b' fd oc wr w (many + 1) (va_up ins many I) ev re con → b'.I 505 0 = 0 → Q (.inl (some (.int (Int32.ofNat (many + 1))))) (n, sl, hd b' f0)) : mi_W d 188 0 (mi_en 7 [.ref 505, .int what, .int x, .int y, .int z, .long v]) [] (n, sl, hd b f0) Q := by
  have hn := h.2.2.2.2.2.2.2.1.nn.1
  have e59 : b.I 505 59 = Int32.ofNat many := h.2.2.2.1.1
  have hix : mi_ix (b.I 505 59) 16 many := by
    rw [e59]
    exact ix_of (by omega) (by omega)
  have e1 : b.I 505 59 + 1 = Int32.ofNat (many + 1) := by rw [e59, of_succ]
  have kk : gX r n sl ((((((b.sI 551 (upd (b.I 551) many what)).sI 552 (upd (b.I 552) many x)).sI 553 (upd (b.I 553) many y)).sI 554 (upd (b.I 554) many z)).sJ 555 (vp_updL (b.J 555) many v)).sX 59 (b.I 505 59 + 1)) fd oc wr w (many + 1) (va_up ins many I) ev re con := by
    obtain ⟨g1, g2, g3, g4, g5, g6, g7, g8, g9⟩ := h
    refine ⟨g1, g2, g3, ⟨e1, by omega, fun j hj => ?_⟩, g5, g6, ?_, g8.to rfl rfl, g9⟩
    · show _ ∧ upd (b.I 551) many what j = _ ∧ (_ → upd (b.I 552) many x j = _ ∧ _) ∧ (_ → upd (b.I 553) many y j = _ ∧ _ ∧ upd (b.I 554) many z j = _ ∧ _) ∧ vp_updL (b.J 555) many v j = _
      by_cases e : j = many
      · rw [e, upd_at, upd_at, upd_at, upd_at, upL_at, va_eq]
        exact ⟨h0, h1, h2, h3, hv⟩
      · rw [upd_ne e, upd_ne e, upd_ne e, upd_ne e, upL_ne e, va_ne e]
        exact g4.2.2 j (by omega)
    · cases con with
      | none => exact g7
      | some K => exact g7
  have k := K _ kk h00
  rw [← e1] at k
  refine b_188_0 _ _ _ _ _ _ _ _ _ _ _ _ _ _ _ _ _ _ (by first | (exact hd_9) | assumption) (by omega) (by exact mL_get (by decide)) (by first | (exact hd_9) | assumption) (by omega) (by exact mL_get (by decide)) (by first | (exact hd_I (by omega) rfl) | assumption) (by omega) (by first | assumption | (exact ix_of (by omega) (by omega)) | (exact ⟨by decide, rfl, by decide⟩)) (by first | (exact (congrFun (gw_I (by omega) rfl) _).trans (hd_9)) | assumption) (by omega) (by exact mL_get (by decide)) (by first | (exact (congrFun (gw_I (by omega) rfl) _).trans (hd_9)) | assumption) (by omega) (by exact mL_get (by decide)) (by first | (exact (congrFun (gw_I (by omega) rfl) _).trans (hd_I (by omega) rfl)) | assumption) (by omega) (by first | assumption | (exact ix_of (by omega) (by omega)) | (exact ⟨by decide, rfl, by decide⟩)) (by first | (exact (congrFun (hw_2 (gw_I (by omega) rfl) (gw_I (by omega) rfl)) _).trans (hd_9)) | assumption) (by omega) (by exact mL_get (by decide)) (by first | (exact (congrFun (hw_2 (gw_I (by omega) rfl) (gw_I (by omega) rfl)) _).trans (hd_9)) | assumption) (by omega) (by exact mL_get (by decide)) (by first | (exact (congrFun (hw_2 (gw_I (by omega) rfl) (gw_I (by omega) rfl)) _).trans (hd_I (by omega) rfl)) | assumption) (by omega) (by first | assumption | (exact ix_of (by omega) (by omega)) | (exact ⟨by decide, rfl, by decide⟩)) (by first | (exact (congrFun (hw_2 (hw_2 (gw_I (by omega) rfl) (gw_I (by omega) rfl)) (gw_I (by omega) rfl)) _).trans (hd_9)) | assumption) (by omega) (by exact mL_get (by decide)) (by first | (exact (congrFun (hw_2 (hw_2 (gw_I (by omega) rfl) (gw_I (by omega) rfl)) (gw_I (by omega) rfl)) _).trans (hd_9)) | assumption) (by omega) (by exact mL_get (by decide)) (by first | (exact (congrFun (hw_2 (hw_2 (gw_I (by omega) rfl) (gw_I (by omega) rfl)) (gw_I (by omega) rfl)) _).trans (hd_I (by omega) rfl)) | assumption) (by omega) (by first | assumption | (exact ix_of (by omega) (by omega)) | (exact ⟨by decide, rfl, by decide⟩)) (by first | (exact (congrFun (hw_2 (hw_2 (hw_2 (gw_I (by omega) rfl) (gw_I (by omega) rfl)) (gw_I (by omega) rfl)) (gw_I (by omega) rfl)) _).trans (hd_9)) | assumption) (by omega) (by exact mL_get (by decide)) (by first | (exact (congrFun (hw_2 (hw_2 (hw_2 (gw_I (by omega) rfl) (gw_I (by omega) rfl)) (gw_I (by omega) rfl)) (gw_I (by omega) rfl)) _).trans (hd_9)) | assumption) (by omega) (by exact mL_get (by decide)) (by first | (exact (congrFun (hw_2 (hw_2 (hw_2 (gw_I (by omega) rfl) (gw_I (by omega) rfl)) (gw_I (by omega) rfl)) (gw_I (by omega) rfl)) _).trans (hd_J (by omega) rfl)) | (exact (congrFun (hw_2 (hw_2 (hw_2 (gw_I (by omega) rfl) (gw_I (by omega) rfl)) (gw_I (by omega) rfl)) (gw_I (by omega) rfl)) _).trans (hd_L1 (by assumption))) | (exact (congrFun (hw_2 (hw_2 (hw_2 (gw_I (by omega) rfl) (gw_I (by omega) rfl)) (gw_I (by omega) rfl)) (gw_I (by omega) rfl)) _).trans (hd_L2 (by assumption))) | (exact (congrFun (hw_2 (hw_2 (hw_2 (gw_I (by omega) rfl) (gw_I (by omega) rfl)) (gw_I (by omega) rfl)) (gw_I (by omega) rfl)) _).trans (hd_L3 (by assumption))) | assumption) (by omega) (by first | assumption | (exact ix_of (by omega) (by omega)) | (exact ⟨by decide, rfl, by decide⟩)) (by first | (exact (congrFun (hw_2 (hw_2 (hw_2 (hw_2 (gw_I (by omega) rfl) (gw_I (by omega) rfl)) (gw_I (by omega) rfl)) (gw_I (by omega) rfl)) ((by first | exact gw_J (by omega) rfl | exact gw_L1 (by assumption) | exact gw_L2 (by assumption) | exact gw_L3 (by assumption)))) _).trans (hd_9)) | assumption) (by omega) (by exact mL_get (by decide)) (by first | (exact (congrFun (hw_2 (hw_2 (hw_2 (hw_2 (gw_I (by omega) rfl) (gw_I (by omega) rfl)) (gw_I (by omega) rfl)) (gw_I (by omega) rfl)) ((by first | exact gw_J (by omega) rfl | exact gw_L1 (by assumption) | exact gw_L2 (by assumption) | exact gw_L3 (by assumption)))) _).trans (hd_9)) | assumption) (by omega) (by rw [mL_len]; decide) ?_
  refine hw_Q (hw_2 (hw_2 (hw_2 (hw_2 (hw_2 (gw_I (by omega) rfl) (gw_I (by omega) rfl)) (gw_I (by omega) rfl)) (gw_I (by omega) rfl)) ((by first | exact gw_J (by omega) rfl | exact gw_L1 (by assumption) | exact gw_L2 (by assumption) | exact gw_L3 (by assumption)))) (gw_X (by decide))) ?_
  exact k
theorem gq_remind (h : gX r n sl b fd oc wr w many ins ev re con) (K1 : many = 16 → ∀ b', gX r n sl b' fd oc wr w many ins ev re con → b'.I 505 0 = 1 → Q (.inl (some (.int 0))) (n, sl, hd b' f0)) (K0 : many < 16 → ∀ b', gX r n sl b' fd oc wr w (many + 1) (va_up ins many (9, 0, 0, 0, 0)) ev re con → b'.I 505 0 = 0 → Q (.inl (some (.int (Int32.ofNat (many + 1))))) (n, sl, hd b' f0)) : mi_W (d + 1) 190 0 (mi_en 1 [.ref 505]) [] (n, sl, hd b f0) Q := by
  have hn := h.2.2.2.2.2.2.2.1.nn.1
  have e59 : b.I 505 59 = Int32.ofNat many := h.2.2.2.1.1
  have h16 := h.2.2.2.1.2.1
  have hi := i_eq e59 (show (16 : Int32) = Int32.ofNat 16 from rfl) (by omega) (by omega)
  by_cases hm : many = 16
  · have hg := hi.mpr hm
    refine b_190_0 _ _ _ (by first | (exact hd_9) | assumption) (by omega) (by rw [mL_len]; decide) (by first | (exact (congrFun (gw_X (by decide)) _).trans (hd_9)) | assumption) (by omega) (by exact mL_get (by decide)) ?_ ?_
    · intro z0
      exact absurd hg z0
    · intro z0
      refine hw_W (gw_X (by decide)) ?_
      refine b_190_15 _ _ _ ?_
      refine b_190_20 _ _ _ (by first | (exact hd_9) | assumption) (by omega) ?_
      refine g_fl1 hn rfl (by decide) ?_
      refine b_190_24 _ _ _ ?_ ?_
      · intro z24
        first | (exact absurd z24 (by decide)) | (exact absurd (by decide) z24) | (exact absurd rfl z24) | (exact absurd z24 (of_nn (by omega))) | (exact absurd (of_np (by omega)) z24) | omega
      · intro z24
        refine b_190_27 _ _ _ ?_
        exact K1 hm _ h.er.er rfl
  · have hg := fun g => hm (hi.mp g)
    refine b_190_0 _ _ _ (by first | (exact hd_9) | assumption) (by omega) (by rw [mL_len]; decide) (by first | (exact (congrFun (gw_X (by decide)) _).trans (hd_9)) | assumption) (by omega) (by exact mL_get (by decide)) ?_ ?_
    · intro z0
      refine hw_W (gw_X (by decide)) ?_
      refine b_190_19 _ _ _ ?_
      refine b_190_20 _ _ _ (by first | (exact hd_9) | assumption) (by omega) ?_
      refine g_fl0 hn rfl ?_
      refine b_190_24 _ _ _ ?_ ?_
      · intro z24
        refine b_190_29 _ _ _ (by first | (exact hd_9) | assumption) (by omega) ?_
        refine gq_input (I := (9, 0, 0, 0, 0)) h.er rfl (by omega) (Or.inr (Or.inr rfl)) rfl (fun g => absurd rfl g) (fun g => absurd g (show ¬ (9 : Nat) = 7 by decide)) rfl (fun b' hb' h0' => ?_)
        refine b_190_39 _ _ _ ?_
        exact K0 (by omega) b' hb' h0'
      · intro z24
        first | (exact absurd z24 (by decide)) | (exact absurd (by decide) z24) | (exact absurd rfl z24) | (exact absurd z24 (of_nn (by omega))) | (exact absurd (of_np (by omega)) z24) | omega
    · intro z0
      exact absurd hg z0
theorem gq_choose (h : gX r n sl b fd oc wr w many ins ev re con) (K1 : ¬ mp_r x 0 7 → ∀ b', gX r n sl b' fd oc wr w many ins ev re con → b'.I 505 0 = 1 → Q (.inl (some (.int 0))) (n, sl, hd b' f0)) (K2 : mp_r x 0 7 → many = 16 → ∀ b', gX r n sl b' fd oc wr w many ins ev re con → b'.I 505 0 = 2 → Q (.inl (some (.int 0))) (n, sl, hd b' f0)) (K0 : ∀ i, i ≤ 7 → x = Int32.ofNat i → mp_r x 0 7 → many < 16 → ∀ b', gX r n sl b' fd oc wr w (many + 1) (va_up ins many (8, i, 0, 0, v)) ev re con → b'.I 505 0 = 0 → Q (.inl (some (.int (Int32.ofNat (many + 1))))) (n, sl, hd b' f0)) : mi_W (d + 1) 189 0 (mi_en 4 [.ref 505, .int x, .long v]) [] (n, sl, hd b f0) Q := by
  have hn := h.2.2.2.2.2.2.2.1.nn.1
  have e59 : b.I 505 59 = Int32.ofNat many := h.2.2.2.1.1
  have h16 := h.2.2.2.1.2.1
  have hi := i_eq e59 (show (16 : Int32) = Int32.ofNat 16 from rfl) (by omega) (by omega)
  have hx4 := mp_r64 (p := x) (b := 7) (b' := 7) rfl
  by_cases hx : mp_r x 0 7
  · have hxg := hx4.mpr hx
    by_cases hm : many = 16
    · have hg := hi.mpr hm
      refine b_189_0 _ _ _ (by first | (exact hd_9) | assumption) (by omega) (by rw [mL_len]; decide) ?_
      refine hw_W (gw_X (by decide)) ?_
      refine s_in (fun _ => ?_) (fun g => ?_)
      · refine b_189_15 _ _ _ ?_ ?_
        · intro z15
          refine b_189_22 _ _ _ ?_
          refine b_189_23 _ _ _ (by first | (exact hd_9) | assumption) (by omega) ?_
          refine g_fl0 hn rfl ?_
          refine b_189_27 _ _ _ ?_ ?_
          · intro z27
            first | (exact absurd z27 (by decide)) | (exact absurd (by decide) z27) | (exact absurd rfl z27) | (exact absurd z27 (of_nn (by omega))) | (exact absurd (of_np (by omega)) z27) | omega
          · intro z27
            refine b_189_30 _ _ _ (by first | (exact hd_9) | assumption) (by omega) (by exact mL_get (by decide)) ?_ ?_
            · intro z30
              exact absurd hg z30
            · intro z30
              refine b_189_40 _ _ _ ?_
              refine b_189_45 _ _ _ (by first | (exact hd_9) | assumption) (by omega) ?_
              refine g_fl1 hn rfl (by decide) ?_
              refine b_189_49 _ _ _ ?_ ?_
              · intro z49
                first | (exact absurd z49 (by decide)) | (exact absurd (by decide) z49) | (exact absurd rfl z49) | (exact absurd z49 (of_nn (by omega))) | (exact absurd (of_np (by omega)) z49) | omega
              · intro z49
                refine b_189_52 _ _ _ ?_
                exact K2 hx hm _ h.er.er rfl
        · intro z15
          first | (exact absurd z15 (by decide)) | (exact absurd (by decide) z15) | (exact absurd rfl z15) | (exact absurd z15 (of_nn (by omega))) | (exact absurd (of_np (by omega)) z15) | omega
      · exact absurd hxg g
    · have hg := fun g => hm (hi.mp g)
      obtain ⟨i, hi7, rfl⟩ := (mp_of (m := 7) (by decide)).mp hx
      refine b_189_0 _ _ _ (by first | (exact hd_9) | assumption) (by omega) (by rw [mL_len]; decide) ?_
      refine hw_W (gw_X (by decide)) ?_
      refine s_in (fun _ => ?_) (fun g => ?_)
      · refine b_189_15 _ _ _ ?_ ?_
        · intro z15
          refine b_189_22 _ _ _ ?_
          refine b_189_23 _ _ _ (by first | (exact hd_9) | assumption) (by omega) ?_
          refine g_fl0 hn rfl ?_
          refine b_189_27 _ _ _ ?_ ?_
          · intro z27
            first | (exact absurd z27 (by decide)) | (exact absurd (by decide) z27) | (exact absurd rfl z27) | (exact absurd z27 (of_nn (by omega))) | (exact absurd (of_np (by omega)) z27) | omega
          · intro z27
            refine b_189_30 _ _ _ (by first | (exact hd_9) | assumption) (by omega) (by exact mL_get (by decide)) ?_ ?_
            · intro z30
              refine b_189_44 _ _ _ ?_
              refine b_189_45 _ _ _ (by first | (exact hd_9) | assumption) (by omega) ?_
              refine g_fl0 hn rfl ?_
              refine b_189_49 _ _ _ ?_ ?_
              · intro z49
                refine b_189_54 _ _ _ (by first | (exact hd_9) | assumption) (by omega) ?_
                refine gq_input (I := (8, i, 0, 0, v)) h.er rfl (by omega) (Or.inr (Or.inl rfl)) rfl (fun _ => ⟨rfl, (show i ≤ 800 by omega)⟩) (fun g => absurd g (show ¬ (8 : Nat) = 7 by decide)) rfl (fun b' hb' h0' => ?_)
                refine b_189_64 _ _ _ ?_
                exact K0 i hi7 rfl hx (by omega) b' hb' h0'
              · intro z49
                first | (exact absurd z49 (by decide)) | (exact absurd (by decide) z49) | (exact absurd rfl z49) | (exact absurd z49 (of_nn (by omega))) | (exact absurd (of_np (by omega)) z49) | omega
            · intro z30
              exact absurd hg z30
        · intro z15
          first | (exact absurd z15 (by decide)) | (exact absurd (by decide) z15) | (exact absurd rfl z15) | (exact absurd z15 (of_nn (by omega))) | (exact absurd (of_np (by omega)) z15) | omega
      · exact absurd hxg g
  · have hxg := fun g => hx (hx4.mp g)
    refine b_189_0 _ _ _ (by first | (exact hd_9) | assumption) (by omega) (by rw [mL_len]; decide) ?_
    refine hw_W (gw_X (by decide)) ?_
    refine s_in (fun g => ?_) (fun g => ?_)
    · exact absurd g hxg
    · refine b_189_15 _ _ _ ?_ ?_
      · intro z15
        first | (exact absurd z15 (by decide)) | (exact absurd (by decide) z15) | (exact absurd rfl z15) | (exact absurd z15 (of_nn (by omega))) | (exact absurd (of_np (by omega)) z15) | omega
      · intro z15
        refine b_189_18 _ _ _ ?_
        refine b_189_23 _ _ _ (by first | (exact hd_9) | assumption) (by omega) ?_
        refine g_fl1 hn rfl (by decide) ?_
        refine b_189_27 _ _ _ ?_ ?_
        · intro z27
          refine b_189_52 _ _ _ ?_
          exact K1 hx _ h.er.er rfl
        · intro z27
          first | (exact absurd z27 (by decide)) | (exact absurd (by decide) z27) | (exact absurd rfl z27) | (exact absurd z27 (of_nn (by omega))) | (exact absurd (of_np (by omega)) z27) | omega
theorem gq_deposit (h : gX r n sl b fd oc wr w many ins ev re con) (K1 : ¬ (mp_r x 0 7 ∧ mp_r y 0 7 ∧ mp_r z 0 3) → ∀ b', gX r n sl b' fd oc wr w many ins ev re con → b'.I 505 0 = 1 → Q (.inl (some (.int 0))) (n, sl, hd b' f0)) (K2 : (mp_r x 0 7 ∧ mp_r y 0 7 ∧ mp_r z 0 3) → many = 16 → ∀ b', gX r n sl b' fd oc wr w many ins ev re con → b'.I 505 0 = 2 → Q (.inl (some (.int 0))) (n, sl, hd b' f0)) (K0 : ∀ i j k, i ≤ 7 → j ≤ 7 → k ≤ 3 → x = Int32.ofNat i → y = Int32.ofNat j → z = Int32.ofNat k → (mp_r x 0 7 ∧ mp_r y 0 7 ∧ mp_r z 0 3) → many < 16 → ∀ b', gX r n sl b' fd oc wr w (many + 1) (va_up ins many (7, i, j, k, v)) ev re con → b'.I 505 0 = 0 → Q (.inl (some (.int (Int32.ofNat (many + 1))))) (n, sl, hd b' f0)) : mi_W (d + 1) 187 0 (mi_en 6 [.ref 505, .int x, .int y, .int z, .long v]) [] (n, sl, hd b f0) Q := by
  have hn := h.2.2.2.2.2.2.2.1.nn.1
  have e59 : b.I 505 59 = Int32.ofNat many := h.2.2.2.1.1
  have h16 := h.2.2.2.1.2.1
  have hi := i_eq e59 (show (16 : Int32) = Int32.ofNat 16 from rfl) (by omega) (by omega)
  have hx4 := mp_r64 (p := x) (b := 7) (b' := 7) rfl
  have hy4 := mp_r64 (p := y) (b := 7) (b' := 7) rfl
  have hz4 := mp_r64 (p := z) (b := 3) (b' := 3) rfl
  by_cases hx : mp_r x 0 7
  · have hxg := hx4.mpr hx
    by_cases hy : mp_r y 0 7
    · have hyg := hy4.mpr hy
      by_cases hz : mp_r z 0 3
      · have hzg := hz4.mpr hz
        by_cases hm : many = 16
        · have hg := hi.mpr hm
          refine b_187_0 _ _ _ (by first | (exact hd_9) | assumption) (by omega) (by rw [mL_len]; decide) ?_
          refine hw_W (gw_X (by decide)) ?_
          refine s_in (fun _ => ?_) (fun g => ?_)
          · refine b_187_15 _ _ _ ?_ ?_
            · intro z15
              first | (exact absurd z15 (by decide)) | (exact absurd (by decide) z15) | (exact absurd rfl z15) | (exact absurd z15 (of_nn (by omega))) | (exact absurd (of_np (by omega)) z15) | omega
            · intro z15
              refine b_187_18 _ _ _ ?_
              refine s_in (fun _ => ?_) (fun g => ?_)
              · refine b_187_27 _ _ _ ?_ ?_
                · intro z27
                  first | (exact absurd z27 (by decide)) | (exact absurd (by decide) z27) | (exact absurd rfl z27) | (exact absurd z27 (of_nn (by omega))) | (exact absurd (of_np (by omega)) z27) | omega
                · intro z27
                  refine b_187_30 _ _ _ ?_
                  refine s_in (fun _ => ?_) (fun g => ?_)
                  · refine b_187_39 _ _ _ ?_ ?_
                    · intro z39
                      refine b_187_46 _ _ _ ?_
                      refine b_187_47 _ _ _ (by first | (exact hd_9) | assumption) (by omega) ?_
                      refine g_fl0 hn rfl ?_
                      refine b_187_51 _ _ _ ?_ ?_
                      · intro z51
                        first | (exact absurd z51 (by decide)) | (exact absurd (by decide) z51) | (exact absurd rfl z51) | (exact absurd z51 (of_nn (by omega))) | (exact absurd (of_np (by omega)) z51) | omega
                      · intro z51
                        refine b_187_54 _ _ _ (by first | (exact hd_9) | assumption) (by omega) (by exact mL_get (by decide)) ?_ ?_
                        · intro z54
                          exact absurd hg z54
                        · intro z54
                          refine b_187_64 _ _ _ ?_
                          refine b_187_69 _ _ _ (by first | (exact hd_9) | assumption) (by omega) ?_
                          refine g_fl1 hn rfl (by decide) ?_
                          refine b_187_73 _ _ _ ?_ ?_
                          · intro z73
                            first | (exact absurd z73 (by decide)) | (exact absurd (by decide) z73) | (exact absurd rfl z73) | (exact absurd z73 (of_nn (by omega))) | (exact absurd (of_np (by omega)) z73) | omega
                          · intro z73
                            refine b_187_76 _ _ _ ?_
                            exact K2 ⟨hx, hy, hz⟩ hm _ h.er.er rfl
                    · intro z39
                      first | (exact absurd z39 (by decide)) | (exact absurd (by decide) z39) | (exact absurd rfl z39) | (exact absurd z39 (of_nn (by omega))) | (exact absurd (of_np (by omega)) z39) | omega
                  · exact absurd hzg g
              · exact absurd hyg g
          · exact absurd hxg g
        · have hg := fun g => hm (hi.mp g)
          obtain ⟨i, hi7, rfl⟩ := (mp_of (m := 7) (by decide)).mp hx
          obtain ⟨j, hj, rfl⟩ := (mp_of (m := 7) (by decide)).mp hy
          obtain ⟨k, hk, rfl⟩ := (mp_of (m := 3) (by decide)).mp hz
          refine b_187_0 _ _ _ (by first | (exact hd_9) | assumption) (by omega) (by rw [mL_len]; decide) ?_
          refine hw_W (gw_X (by decide)) ?_
          refine s_in (fun _ => ?_) (fun g => ?_)
          · refine b_187_15 _ _ _ ?_ ?_
            · intro z15
              first | (exact absurd z15 (by decide)) | (exact absurd (by decide) z15) | (exact absurd rfl z15) | (exact absurd z15 (of_nn (by omega))) | (exact absurd (of_np (by omega)) z15) | omega
            · intro z15
              refine b_187_18 _ _ _ ?_
              refine s_in (fun _ => ?_) (fun g => ?_)
              · refine b_187_27 _ _ _ ?_ ?_
                · intro z27
                  first | (exact absurd z27 (by decide)) | (exact absurd (by decide) z27) | (exact absurd rfl z27) | (exact absurd z27 (of_nn (by omega))) | (exact absurd (of_np (by omega)) z27) | omega
                · intro z27
                  refine b_187_30 _ _ _ ?_
                  refine s_in (fun _ => ?_) (fun g => ?_)
                  · refine b_187_39 _ _ _ ?_ ?_
                    · intro z39
                      refine b_187_46 _ _ _ ?_
                      refine b_187_47 _ _ _ (by first | (exact hd_9) | assumption) (by omega) ?_
                      refine g_fl0 hn rfl ?_
                      refine b_187_51 _ _ _ ?_ ?_
                      · intro z51
                        first | (exact absurd z51 (by decide)) | (exact absurd (by decide) z51) | (exact absurd rfl z51) | (exact absurd z51 (of_nn (by omega))) | (exact absurd (of_np (by omega)) z51) | omega
                      · intro z51
                        refine b_187_54 _ _ _ (by first | (exact hd_9) | assumption) (by omega) (by exact mL_get (by decide)) ?_ ?_
                        · intro z54
                          refine b_187_68 _ _ _ ?_
                          refine b_187_69 _ _ _ (by first | (exact hd_9) | assumption) (by omega) ?_
                          refine g_fl0 hn rfl ?_
                          refine b_187_73 _ _ _ ?_ ?_
                          · intro z73
                            refine b_187_78 _ _ _ (by first | (exact hd_9) | assumption) (by omega) ?_
                            refine gq_input (I := (7, i, j, k, v)) h.er rfl (by omega) (Or.inl rfl) rfl (fun _ => ⟨rfl, (show i ≤ 800 by omega)⟩) (fun _ => ⟨rfl, (show j ≤ 800 by omega), rfl, (show k ≤ 800 by omega)⟩) rfl (fun b' hb' h0' => ?_)
                            refine b_187_89 _ _ _ ?_
                            exact K0 i j k hi7 hj hk rfl rfl rfl ⟨hx, hy, hz⟩ (by omega) b' hb' h0'
                          · intro z73
                            first | (exact absurd z73 (by decide)) | (exact absurd (by decide) z73) | (exact absurd rfl z73) | (exact absurd z73 (of_nn (by omega))) | (exact absurd (of_np (by omega)) z73) | omega
                        · intro z54
                          exact absurd hg z54
                    · intro z39
                      first | (exact absurd z39 (by decide)) | (exact absurd (by decide) z39) | (exact absurd rfl z39) | (exact absurd z39 (of_nn (by omega))) | (exact absurd (of_np (by omega)) z39) | omega
                  · exact absurd hzg g
              · exact absurd hyg g
          · exact absurd hxg g
      · have hzg := fun g => hz (hz4.mp g)
        refine b_187_0 _ _ _ (by first | (exact hd_9) | assumption) (by omega) (by rw [mL_len]; decide) ?_
        refine hw_W (gw_X (by decide)) ?_
        refine s_in (fun _ => ?_) (fun g => ?_)
        · refine b_187_15 _ _ _ ?_ ?_
          · intro z15
            first | (exact absurd z15 (by decide)) | (exact absurd (by decide) z15) | (exact absurd rfl z15) | (exact absurd z15 (of_nn (by omega))) | (exact absurd (of_np (by omega)) z15) | omega
          · intro z15
            refine b_187_18 _ _ _ ?_
            refine s_in (fun _ => ?_) (fun g => ?_)
            · refine b_187_27 _ _ _ ?_ ?_
              · intro z27
                first | (exact absurd z27 (by decide)) | (exact absurd (by decide) z27) | (exact absurd rfl z27) | (exact absurd z27 (of_nn (by omega))) | (exact absurd (of_np (by omega)) z27) | omega
              · intro z27
                refine b_187_30 _ _ _ ?_
                refine s_in (fun g => ?_) (fun g => ?_)
                · exact absurd g hzg
                · refine b_187_39 _ _ _ ?_ ?_
                  · intro z39
                    first | (exact absurd z39 (by decide)) | (exact absurd (by decide) z39) | (exact absurd rfl z39) | (exact absurd z39 (of_nn (by omega))) | (exact absurd (of_np (by omega)) z39) | omega
                  · intro z39
                    refine b_187_42 _ _ _ ?_
                    refine b_187_47 _ _ _ (by first | (exact hd_9) | assumption) (by omega) ?_
                    refine g_fl1 hn rfl (by decide) ?_
                    refine b_187_51 _ _ _ ?_ ?_
                    · intro z51
                      refine b_187_76 _ _ _ ?_
                      exact K1 (fun g => hz g.2.2) _ h.er.er rfl
                    · intro z51
                      first | (exact absurd z51 (by decide)) | (exact absurd (by decide) z51) | (exact absurd rfl z51) | (exact absurd z51 (of_nn (by omega))) | (exact absurd (of_np (by omega)) z51) | omega
            · refine b_187_27 _ _ _ ?_ ?_
              · intro z27
                refine b_187_42 _ _ _ ?_
                refine b_187_47 _ _ _ (by first | (exact hd_9) | assumption) (by omega) ?_
                refine g_fl1 hn rfl (by decide) ?_
                refine b_187_51 _ _ _ ?_ ?_
                · intro z51
                  refine b_187_76 _ _ _ ?_
                  exact K1 (fun g => hz g.2.2) _ h.er.er rfl
                · intro z51
                  first | (exact absurd z51 (by decide)) | (exact absurd (by decide) z51) | (exact absurd rfl z51) | (exact absurd z51 (of_nn (by omega))) | (exact absurd (of_np (by omega)) z51) | omega
              · intro z27
                first | (exact absurd z27 (by decide)) | (exact absurd (by decide) z27) | (exact absurd rfl z27) | (exact absurd z27 (of_nn (by omega))) | (exact absurd (of_np (by omega)) z27) | omega
        · refine b_187_15 _ _ _ ?_ ?_
          · intro z15
            refine b_187_42 _ _ _ ?_
            refine b_187_47 _ _ _ (by first | (exact hd_9) | assumption) (by omega) ?_
            refine g_fl1 hn rfl (by decide) ?_
            refine b_187_51 _ _ _ ?_ ?_
            · intro z51
              refine b_187_76 _ _ _ ?_
              exact K1 (fun g => hz g.2.2) _ h.er.er rfl
            · intro z51
              first | (exact absurd z51 (by decide)) | (exact absurd (by decide) z51) | (exact absurd rfl z51) | (exact absurd z51 (of_nn (by omega))) | (exact absurd (of_np (by omega)) z51) | omega
          · intro z15
            first | (exact absurd z15 (by decide)) | (exact absurd (by decide) z15) | (exact absurd rfl z15) | (exact absurd z15 (of_nn (by omega))) | (exact absurd (of_np (by omega)) z15) | omega
    · have hyg := fun g => hy (hy4.mp g)
      refine b_187_0 _ _ _ (by first | (exact hd_9) | assumption) (by omega) (by rw [mL_len]; decide) ?_
      refine hw_W (gw_X (by decide)) ?_
      refine s_in (fun _ => ?_) (fun g => ?_)
      · refine b_187_15 _ _ _ ?_ ?_
        · intro z15
          first | (exact absurd z15 (by decide)) | (exact absurd (by decide) z15) | (exact absurd rfl z15) | (exact absurd z15 (of_nn (by omega))) | (exact absurd (of_np (by omega)) z15) | omega
        · intro z15
          refine b_187_18 _ _ _ ?_
          refine s_in (fun g => ?_) (fun g => ?_)
          · exact absurd g hyg
          · refine b_187_27 _ _ _ ?_ ?_
            · intro z27
              refine b_187_42 _ _ _ ?_
              refine b_187_47 _ _ _ (by first | (exact hd_9) | assumption) (by omega) ?_
              refine g_fl1 hn rfl (by decide) ?_
              refine b_187_51 _ _ _ ?_ ?_
              · intro z51
                refine b_187_76 _ _ _ ?_
                exact K1 (fun g => hy g.2.1) _ h.er.er rfl
              · intro z51
                first | (exact absurd z51 (by decide)) | (exact absurd (by decide) z51) | (exact absurd rfl z51) | (exact absurd z51 (of_nn (by omega))) | (exact absurd (of_np (by omega)) z51) | omega
            · intro z27
              first | (exact absurd z27 (by decide)) | (exact absurd (by decide) z27) | (exact absurd rfl z27) | (exact absurd z27 (of_nn (by omega))) | (exact absurd (of_np (by omega)) z27) | omega
      · refine b_187_15 _ _ _ ?_ ?_
        · intro z15
          refine b_187_42 _ _ _ ?_
          refine b_187_47 _ _ _ (by first | (exact hd_9) | assumption) (by omega) ?_
          refine g_fl1 hn rfl (by decide) ?_
          refine b_187_51 _ _ _ ?_ ?_
          · intro z51
            refine b_187_76 _ _ _ ?_
            exact K1 (fun g => hy g.2.1) _ h.er.er rfl
          · intro z51
            first | (exact absurd z51 (by decide)) | (exact absurd (by decide) z51) | (exact absurd rfl z51) | (exact absurd z51 (of_nn (by omega))) | (exact absurd (of_np (by omega)) z51) | omega
        · intro z15
          first | (exact absurd z15 (by decide)) | (exact absurd (by decide) z15) | (exact absurd rfl z15) | (exact absurd z15 (of_nn (by omega))) | (exact absurd (of_np (by omega)) z15) | omega
  · have hxg := fun g => hx (hx4.mp g)
    refine b_187_0 _ _ _ (by first | (exact hd_9) | assumption) (by omega) (by rw [mL_len]; decide) ?_
    refine hw_W (gw_X (by decide)) ?_
    refine s_in (fun g => ?_) (fun g => ?_)
    · exact absurd g hxg
    · refine b_187_15 _ _ _ ?_ ?_
      · intro z15
        refine b_187_42 _ _ _ ?_
        refine b_187_47 _ _ _ (by first | (exact hd_9) | assumption) (by omega) ?_
        refine g_fl1 hn rfl (by decide) ?_
        refine b_187_51 _ _ _ ?_ ?_
        · intro z51
          refine b_187_76 _ _ _ ?_
          exact K1 (fun g => hx g.1) _ h.er.er rfl
        · intro z51
          first | (exact absurd z51 (by decide)) | (exact absurd (by decide) z51) | (exact absurd rfl z51) | (exact absurd z51 (of_nn (by omega))) | (exact absurd (of_np (by omega)) z51) | omega
      · intro z15
        first | (exact absurd z15 (by decide)) | (exact absurd (by decide) z15) | (exact absurd rfl z15) | (exact absurd z15 (of_nn (by omega))) | (exact absurd (of_np (by omega)) z15) | omega
theorem gq_fel {oc' : Nat → Int32} (hfd : fd + 20 ≤ 8200) (ho : ∀ k, k < 20 → oc' (fd + k) = mx_by (mx_wd x1 x2 x3 x4 x5 k) (Int32.ofNat (24 - 8 * (k % 4)))) (K : ∀ b', gX r n sl b' (fd + 20) oc' wr w many ins ev re con → b'.I 505 0 = 0 → Q (.inl (some (.int (Int32.ofNat (fd + 20))))) (n, sl, hd b' f0)) : ∀ (t k : Nat) (b : mg_A) (o8 : Option Value), k + t = 20 → gX r n sl b (fd + k) oc' wr w many ins ev re con → b.I 505 0 = 0 → mi_W d 139 36 [some (.ref 505), some (.int x1), some (.int x2), some (.int x3), some (.int x4), some (.int x5), some (.int (Int32.ofNat k)), o8] [] (n, sl, hd b f0) Q := by
  intro t
  induction t with
  | zero =>
    intro k b o8 hk h h00
    have hn := h.2.2.2.2.2.2.2.1.nn.1
    obtain rfl : k = 20 := by omega
    have e1 : b.I 505 1 = Int32.ofNat (fd + 20) := h.1.1
    have k0 := K b h h00
    refine b_139_36 _ _ _ ?_ ?_
    · intro z36
      refine b_139_130 _ _ _ (by first | (exact hd_9) | assumption) (by omega) (by exact mL_get (by decide)) ?_
      rw [e1]
      exact k0
    · intro z36
      exact absurd (by decide) z36
  | succ t ih =>
    intro k b o8 hk h h00
    have hn := h.2.2.2.2.2.2.2.1.nn.1
    have e1 : b.I 505 1 = Int32.ofNat (fd + k) := h.1.1
    have hix : mi_ix (b.I 505 1) 8200 (fd + k) := by
      rw [e1]
      exact ix_of (by omega) (by omega)
    have hs := mx_sh ⟨k, by omega⟩
    dsimp only at hs
    have fin : ∀ l : Int32, l = mx_wd x1 x2 x3 x4 x5 k → mi_W d 139 36 [some (.ref 505), some (.int x1), some (.int x2), some (.int x3), some (.int x4), some (.int x5), some (.int (Int32.ofNat k + 1)), some (.int l)] [] (n, sl, hd ((b.sX 1 (b.I 505 1 + 1)).sI 506 (upd (b.I 506) (fd + k) (((l.toUInt32 >>> ((24 - 8 * (Int32.ofNat k &&& 3)).toUInt32 &&& Int32.toUInt32 31)).toInt32) &&& 255))) f0) Q := by
      intro l hl
      rw [of_succ]
      refine ih (k + 1) _ _ (by omega) ?_ h00
      obtain ⟨g1, g2, g3, g4, g5, g6, g7, g8, g9⟩ := h
      refine ⟨⟨?_, by omega, fun j hj => ?_⟩, g2, g3, g4, g5, g6, ?_, g8.to rfl rfl, g9⟩
      · show b.I 505 1 + 1 = _
        rw [e1, of_succ]
        rfl
      · show upd (b.I 506) (fd + k) _ j = _
        by_cases e : j = fd + k
        · rw [e, upd_at, ho k (by omega), hs.1, mx_oct l _ hs.2, hl]
        · rw [upd_ne e]
          exact g1.2.2 j (by omega)
      · cases con with
        | none => exact g7
        | some K => exact g7
    have q20 := i_le (show (20 : Int32) = Int32.ofNat 20 from rfl) (show Int32.ofNat k = Int32.ofNat k from rfl) (by omega) (by omega)
    have q4 := i_le (show (4 : Int32) = Int32.ofNat 4 from rfl) (show Int32.ofNat k = Int32.ofNat k from rfl) (by omega) (by omega)
    have q8 := i_le (show (8 : Int32) = Int32.ofNat 8 from rfl) (show Int32.ofNat k = Int32.ofNat k from rfl) (by omega) (by omega)
    have q12 := i_le (show (12 : Int32) = Int32.ofNat 12 from rfl) (show Int32.ofNat k = Int32.ofNat k from rfl) (by omega) (by omega)
    have q16 := i_le (show (16 : Int32) = Int32.ofNat 16 from rfl) (show Int32.ofNat k = Int32.ofNat k from rfl) (by omega) (by omega)
    refine b_139_36 _ _ _ ?_ ?_
    · intro z36
      exact absurd (q20.mp z36) (by omega)
    · intro z36
      refine b_139_43 _ _ _ ?_ ?_
      · intro z43
        have p4 := q4.mp z43
        refine b_139_53 _ _ _ ?_ ?_
        · intro z53
          have p8 := q8.mp z53
          refine b_139_64 _ _ _ ?_ ?_
          · intro z64
            have p12 := q12.mp z64
            refine b_139_75 _ _ _ ?_ ?_
            · intro z75
              have p16 := q16.mp z75
              refine b_139_87 _ _ _ ?_
              refine b_139_89 _ _ _ _ _ _ (by first | (exact hd_9) | assumption) (by omega) (by exact mL_get (by decide)) (by first | (exact hd_9) | assumption) (by omega) (by exact mL_get (by decide)) (by first | (exact hd_9) | assumption) (by omega) (by rw [mL_len]; decide) (by first | (exact (congrFun (gw_X (by decide)) _).trans (hd_I (by omega) rfl)) | assumption) (by omega) (by first | assumption | (exact ix_of (by omega) (by omega)) | (exact ⟨by decide, rfl, by decide⟩)) ?_
              refine hw_W (hw_2 (gw_X (by decide)) (gw_I (by omega) rfl)) ?_
              refine fin _ ?_
              unfold mx_wd
              first | (rw [if_pos (Nat.not_le.mp p4)]; done) | (rw [if_neg (Nat.not_lt.mpr p4), if_pos (Nat.not_le.mp p8)]; done) | (rw [if_neg (Nat.not_lt.mpr p4), if_neg (Nat.not_lt.mpr p8), if_pos (Nat.not_le.mp p12)]; done) | (rw [if_neg (Nat.not_lt.mpr p4), if_neg (Nat.not_lt.mpr p8), if_neg (Nat.not_lt.mpr p12), if_pos (Nat.not_le.mp p16)]; done) | (rw [if_neg (Nat.not_lt.mpr p4), if_neg (Nat.not_lt.mpr p8), if_neg (Nat.not_lt.mpr p12), if_neg (Nat.not_lt.mpr p16)]; done)
            · intro z75
              have p16 := fun g => z75 (q16.mpr g)
              refine b_139_82 _ _ _ ?_
              refine b_139_89 _ _ _ _ _ _ (by first | (exact hd_9) | assumption) (by omega) (by exact mL_get (by decide)) (by first | (exact hd_9) | assumption) (by omega) (by exact mL_get (by decide)) (by first | (exact hd_9) | assumption) (by omega) (by rw [mL_len]; decide) (by first | (exact (congrFun (gw_X (by decide)) _).trans (hd_I (by omega) rfl)) | assumption) (by omega) (by first | assumption | (exact ix_of (by omega) (by omega)) | (exact ⟨by decide, rfl, by decide⟩)) ?_
              refine hw_W (hw_2 (gw_X (by decide)) (gw_I (by omega) rfl)) ?_
              refine fin _ ?_
              unfold mx_wd
              first | (rw [if_pos (Nat.not_le.mp p4)]; done) | (rw [if_neg (Nat.not_lt.mpr p4), if_pos (Nat.not_le.mp p8)]; done) | (rw [if_neg (Nat.not_lt.mpr p4), if_neg (Nat.not_lt.mpr p8), if_pos (Nat.not_le.mp p12)]; done) | (rw [if_neg (Nat.not_lt.mpr p4), if_neg (Nat.not_lt.mpr p8), if_neg (Nat.not_lt.mpr p12), if_pos (Nat.not_le.mp p16)]; done) | (rw [if_neg (Nat.not_lt.mpr p4), if_neg (Nat.not_lt.mpr p8), if_neg (Nat.not_lt.mpr p12), if_neg (Nat.not_lt.mpr p16)]; done)
          · intro z64
            have p12 := fun g => z64 (q12.mpr g)
            refine b_139_71 _ _ _ ?_
            refine b_139_89 _ _ _ _ _ _ (by first | (exact hd_9) | assumption) (by omega) (by exact mL_get (by decide)) (by first | (exact hd_9) | assumption) (by omega) (by exact mL_get (by decide)) (by first | (exact hd_9) | assumption) (by omega) (by rw [mL_len]; decide) (by first | (exact (congrFun (gw_X (by decide)) _).trans (hd_I (by omega) rfl)) | assumption) (by omega) (by first | assumption | (exact ix_of (by omega) (by omega)) | (exact ⟨by decide, rfl, by decide⟩)) ?_
            refine hw_W (hw_2 (gw_X (by decide)) (gw_I (by omega) rfl)) ?_
            refine fin _ ?_
            unfold mx_wd
            first | (rw [if_pos (Nat.not_le.mp p4)]; done) | (rw [if_neg (Nat.not_lt.mpr p4), if_pos (Nat.not_le.mp p8)]; done) | (rw [if_neg (Nat.not_lt.mpr p4), if_neg (Nat.not_lt.mpr p8), if_pos (Nat.not_le.mp p12)]; done) | (rw [if_neg (Nat.not_lt.mpr p4), if_neg (Nat.not_lt.mpr p8), if_neg (Nat.not_lt.mpr p12), if_pos (Nat.not_le.mp p16)]; done) | (rw [if_neg (Nat.not_lt.mpr p4), if_neg (Nat.not_lt.mpr p8), if_neg (Nat.not_lt.mpr p12), if_neg (Nat.not_lt.mpr p16)]; done)
        · intro z53
          have p8 := fun g => z53 (q8.mpr g)
          refine b_139_60 _ _ _ ?_
          refine b_139_89 _ _ _ _ _ _ (by first | (exact hd_9) | assumption) (by omega) (by exact mL_get (by decide)) (by first | (exact hd_9) | assumption) (by omega) (by exact mL_get (by decide)) (by first | (exact hd_9) | assumption) (by omega) (by rw [mL_len]; decide) (by first | (exact (congrFun (gw_X (by decide)) _).trans (hd_I (by omega) rfl)) | assumption) (by omega) (by first | assumption | (exact ix_of (by omega) (by omega)) | (exact ⟨by decide, rfl, by decide⟩)) ?_
          refine hw_W (hw_2 (gw_X (by decide)) (gw_I (by omega) rfl)) ?_
          refine fin _ ?_
          unfold mx_wd
          first | (rw [if_pos (Nat.not_le.mp p4)]; done) | (rw [if_neg (Nat.not_lt.mpr p4), if_pos (Nat.not_le.mp p8)]; done) | (rw [if_neg (Nat.not_lt.mpr p4), if_neg (Nat.not_lt.mpr p8), if_pos (Nat.not_le.mp p12)]; done) | (rw [if_neg (Nat.not_lt.mpr p4), if_neg (Nat.not_lt.mpr p8), if_neg (Nat.not_lt.mpr p12), if_pos (Nat.not_le.mp p16)]; done) | (rw [if_neg (Nat.not_lt.mpr p4), if_neg (Nat.not_lt.mpr p8), if_neg (Nat.not_lt.mpr p12), if_neg (Nat.not_lt.mpr p16)]; done)
      · intro z43
        have p4 := fun g => z43 (q4.mpr g)
        refine b_139_49 _ _ _ ?_
        refine b_139_89 _ _ _ _ _ _ (by first | (exact hd_9) | assumption) (by omega) (by exact mL_get (by decide)) (by first | (exact hd_9) | assumption) (by omega) (by exact mL_get (by decide)) (by first | (exact hd_9) | assumption) (by omega) (by rw [mL_len]; decide) (by first | (exact (congrFun (gw_X (by decide)) _).trans (hd_I (by omega) rfl)) | assumption) (by omega) (by first | assumption | (exact ix_of (by omega) (by omega)) | (exact ⟨by decide, rfl, by decide⟩)) ?_
        refine hw_W (hw_2 (gw_X (by decide)) (gw_I (by omega) rfl)) ?_
        refine fin _ ?_
        unfold mx_wd
        first | (rw [if_pos (Nat.not_le.mp p4)]; done) | (rw [if_neg (Nat.not_lt.mpr p4), if_pos (Nat.not_le.mp p8)]; done) | (rw [if_neg (Nat.not_lt.mpr p4), if_neg (Nat.not_lt.mpr p8), if_pos (Nat.not_le.mp p12)]; done) | (rw [if_neg (Nat.not_lt.mpr p4), if_neg (Nat.not_lt.mpr p8), if_neg (Nat.not_lt.mpr p12), if_pos (Nat.not_le.mp p16)]; done) | (rw [if_neg (Nat.not_lt.mpr p4), if_neg (Nat.not_lt.mpr p8), if_neg (Nat.not_lt.mpr p12), if_neg (Nat.not_lt.mpr p16)]; done)
theorem gq_feed (h : gX r n sl b fd oc wr w many ins ev re con) (K1 : ¬ fd + 20 ≤ 8200 → ∀ b', gX r n sl b' fd oc wr w many ins ev re con → b'.I 505 0 = 1 → Q (.inl (some (.int 0))) (n, sl, hd b' f0)) (K0 : fd + 20 ≤ 8200 → ∀ b', gX r n sl b' (fd + 20) (mx_fe oc fd x1 x2 x3 x4 x5) wr w many ins ev re con → b'.I 505 0 = 0 → Q (.inl (some (.int (Int32.ofNat (fd + 20))))) (n, sl, hd b' f0)) : mi_W (d + 1) 139 0 (mi_en 8 [.ref 505, .int x1, .int x2, .int x3, .int x4, .int x5]) [] (n, sl, hd b f0) Q := by
  have hn := h.2.2.2.2.2.2.2.1.nn.1
  have e1 : b.I 505 1 = Int32.ofNat fd := h.1.1
  have h82 := h.1.2.1
  have e20 : b.I 505 1 + 20 = Int32.ofNat (fd + 20) := by
    rw [e1, show (20 : Int32) = Int32.ofNat 20 from rfl, of_add']
  have hi := i_le e20 (show (8200 : Int32) = Int32.ofNat 8200 from rfl) (by omega) (by omega)
  by_cases hm : fd + 20 ≤ 8200
  · have hg := hi.mpr hm
    refine b_139_0 _ _ _ (by first | (exact hd_9) | assumption) (by omega) (by rw [mL_len]; decide) (by first | (exact (congrFun (gw_X (by decide)) _).trans (hd_9)) | assumption) (by omega) (by exact mL_get (by decide)) ?_ ?_
    · intro z0
      refine hw_W (gw_X (by decide)) ?_
      refine b_139_23 _ _ _ ?_
      refine b_139_24 _ _ _ (by first | (exact hd_9) | assumption) (by omega) ?_
      refine g_fl0 hn rfl ?_
      refine b_139_28 _ _ _ ?_ ?_
      · intro z28
        refine b_139_33 _ _ _ ?_
        have h' := h.er (x := 0)
        refine gq_fel (oc' := mx_fe oc fd x1 x2 x3 x4 x5) hm (fun k hk => ?_) (K0 hm) 20 0 _ _ rfl ⟨⟨h'.1.1, h'.1.2.1, fun k hk => ?_⟩, h'.2⟩ rfl
        · unfold mx_fe
          rw [if_neg (by omega), show fd + k - fd = k by omega]
        · unfold mx_fe
          rw [if_pos (by omega)]
          exact h'.1.2.2 k hk
      · intro z28
        first | (exact absurd z28 (by decide)) | (exact absurd (by decide) z28) | (exact absurd rfl z28) | (exact absurd z28 (of_nn (by omega))) | (exact absurd (of_np (by omega)) z28) | omega
    · intro z0
      exact absurd hg z0
  · have hg := fun g => hm (hi.mp g)
    refine b_139_0 _ _ _ (by first | (exact hd_9) | assumption) (by omega) (by rw [mL_len]; decide) (by first | (exact (congrFun (gw_X (by decide)) _).trans (hd_9)) | assumption) (by omega) (by exact mL_get (by decide)) ?_ ?_
    · intro z0
      exact absurd z0 hg
    · intro z0
      refine hw_W (gw_X (by decide)) ?_
      refine b_139_19 _ _ _ ?_
      refine b_139_24 _ _ _ (by first | (exact hd_9) | assumption) (by omega) ?_
      refine g_fl1 hn rfl (by decide) ?_
      refine b_139_28 _ _ _ ?_ ?_
      · intro z28
        first | (exact absurd z28 (by decide)) | (exact absurd (by decide) z28) | (exact absurd rfl z28) | (exact absurd z28 (of_nn (by omega))) | (exact absurd (of_np (by omega)) z28) | omega
      · intro z28
        refine b_139_31 _ _ _ ?_
        exact K1 hm _ h.er.er rfl
end
