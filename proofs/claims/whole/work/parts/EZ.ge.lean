/-! the first object: isOutside, look -/
theorem mo_sh33 : ∀ o, ¬ mo_sh o = 9 → o < 33 := by
  intro o h
  by_cases h3 : o < 33
  · exact h3
  · refine absurd ?_ h
    unfold mo_sh
    rw [List.getD_eq_getElem?_getD, List.getElem?_eq_none (by show 33 ≤ o; omega)]
    rfl
theorem cz_sh0 : ∀ o : Fin 33, mo_sh o.1 = 0 → ([12, 26] : List Nat).contains o.1 = false ∧ cz_3.contains o.1 = false ∧ ([3, 21] : List Nat).contains o.1 = false := by decide +kernel
theorem cz_sh1 : ∀ o : Fin 33, mo_sh o.1 = 1 → ([12, 26] : List Nat).contains o.1 = true := by decide +kernel
theorem cz_sh2 : ∀ o : Fin 33, mo_sh o.1 = 2 → ([12, 26] : List Nat).contains o.1 = false ∧ cz_3.contains o.1 = true := by decide +kernel
theorem cz_sh3 : ∀ o : Fin 33, mo_sh o.1 = 3 → ([12, 26] : List Nat).contains o.1 = false ∧ cz_3.contains o.1 = false ∧ ([3, 21] : List Nat).contains o.1 = true := by decide +kernel
theorem cz_kb : ∀ o : Fin 33, (cz_k.getD o.1 0 = 15 ↔ o.1 = 19) ∧ (cz_k.getD o.1 0 = 16 ↔ o.1 = 20) ∧ (cz_k.getD o.1 0 = 9 ↔ o.1 = 8) ∧ cz_k.getD o.1 0 ≤ 40 := by decide +kernel
theorem cz_kc (o : Nat) : (cz_k.getD o 0 = 15 ↔ o = 19) ∧ (cz_k.getD o 0 = 16 ↔ o = 20) ∧ (cz_k.getD o 0 = 9 ↔ o = 8) ∧ cz_k.getD o 0 ≤ 40 := by
  by_cases h3 : o < 33
  · exact cz_kb ⟨o, h3⟩
  · have : cz_k.getD o 0 = 0 := by
      rw [List.getD_eq_getElem?_getD, List.getElem?_eq_none (by show 33 ≤ o; omega)]
      rfl
    rw [this]
    omega
section
variable {d e' n sl N BN : Nat} {a a0 a1 a2 : mh_A} {f0 : Nat → mi_C} {Q : (Option Value ⊕ Nat) → mi_H → Prop} {q k l m e : Nat} {tb : Nat → ms_N} {bd : Nat → Int64 × Int64} {S : mv_S} {gl : Nat → Option Nat}
theorem cz_lc0 {c : ms_N} (h1 : ([12, 26] : List Nat).contains c.1 = false) (h2 : cz_3.contains c.1 = false) (h3 : ([3, 21] : List Nat).contains c.1 = false) : cz_lc c = 0 := by
  unfold cz_lc
  rw [h1, h2, h3]
  rfl
theorem ct_bv (hrg : crg 0 N a tb) : ∀ (k m e : Nat), e ≤ N → mo_v tb k m e → a.AI 2 3 7 m = Int32.ofNat e := by
  intro k
  induction k with
  | zero =>
    intro m e _ h
    exact h.elim
  | succ k ih =>
    intro m e he h
    have hlt := mo_v_lt (k + 1) m e h
    have hr := (hrg m (Nat.zero_le _) (by omega)).1.2.2
    rcases h with ⟨h0, h⟩ | ⟨h0, hx, h⟩ | ⟨h0, hx, h1, h2⟩ | ⟨h0, hx, h1, h2, h3⟩
    · have h33 := mo_sh33 _ (by rw [h0]; decide)
      obtain ⟨c1, c2, c3⟩ := cz_sh0 ⟨_, h33⟩ h0
      rw [cz_lc0 c1 c2 c3, if_pos rfl] at hr
      rw [hr, h]
    · have h33 := mo_sh33 _ (by rw [h0]; decide)
      have c1 := cz_sh1 ⟨_, h33⟩ h0
      have el : cz_lc (tb m) = m + 1 := by
        unfold cz_lc
        rw [if_pos c1, hx]
      rw [el, if_neg (by omega)] at hr
      rw [hr]
      exact ih _ _ he h
    · have h33 := mo_sh33 _ (by rw [h0]; decide)
      obtain ⟨c1, c2⟩ := cz_sh2 ⟨_, h33⟩ h0
      have l1 := mo_v_lt _ _ _ h1
      have el : cz_lc (tb m) = (tb m).2.2.2.2.2.2.1 := by
        unfold cz_lc
        rw [show ([12, 26] : List Nat).contains (tb m).1 = false from c1, if_neg (by decide), if_pos c2]
      rw [el, if_neg (by omega)] at hr
      rw [hr]
      exact ih _ _ he h2
    · have h33 := mo_sh33 _ (by rw [h0]; decide)
      obtain ⟨c1, c2, c3⟩ := cz_sh3 ⟨_, h33⟩ h0
      have l1 := mo_v_lt _ _ _ h1
      have l2 := mo_v_lt _ _ _ h2
      have el : cz_lc (tb m) = (tb m).2.2.2.2.2.2.2.1 := by
        unfold cz_lc
        rw [show ([12, 26] : List Nat).contains (tb m).1 = false from c1, if_neg (by decide), show cz_3.contains (tb m).1 = false from c2, if_neg (by decide), if_pos c3]
      rw [el, if_neg (by omega)] at hr
      rw [hr]
      exact ih _ _ he h3
theorem ct_bc (hrg : crg 0 N a tb) : ∀ (k m e : Nat), e ≤ N → mo_c tb k m e → a.AI 2 3 7 m = Int32.ofNat e := by
  intro k
  induction k with
  | zero =>
    intro m e _ h
    exact h.elim
  | succ k ih =>
    intro m e he h
    have hlt := mo_c_lt (k + 1) m e h
    have hr := (hrg m (Nat.zero_le _) (by omega)).1.2.2
    have lcy : ((tb m).1 = 1 ∨ (tb m).1 = 2 ∨ (tb m).1 = 5 ∨ (tb m).1 = 6 ∨ (tb m).1 = 4) → cz_lc (tb m) = (tb m).2.2.2.2.2.2.1 := fun ho => by
      unfold cz_lc
      rcases ho with ho | ho | ho | ho | ho <;> rw [ho] <;> rfl
    rcases h with ⟨h0, h⟩ | ⟨h0, hx, h1, h2⟩ | ⟨h0, hx, h1, h2, h3⟩ | ⟨h0, h1, h2⟩
    · have el : cz_lc (tb m) = 0 := by
        unfold cz_lc
        rw [h0]
        rfl
      rw [el, if_pos rfl] at hr
      rw [hr, h]
    · have l1 := mo_v_lt _ _ _ h1
      rw [lcy (by omega), if_neg (by omega)] at hr
      rw [hr]
      exact ih _ _ he h2
    · have l1 := mo_v_lt _ _ _ h1
      have l2 := mo_c_lt _ _ _ h2
      have el : cz_lc (tb m) = (tb m).2.2.2.2.2.2.2.1 := by
        unfold cz_lc
        rw [h0]
        rfl
      rw [el, if_neg (by omega)] at hr
      rw [hr]
      exact ih _ _ he h3
    · have l1 := mo_a_le (mo_v_lt k) (mo_c_lt k) _ _ _ _ h1
      rw [lcy (by omega), if_neg (by omega)] at hr
      rw [hr]
      exact ih _ _ he h2
theorem ct_outl (hn : 575 ≤ n) (hT : cTb a N BN tb bd) (he : e ≤ N) : ∀ (t i : Nat) (o5 : Option Value), i + t = e → (mo_any tb bd i e → Q (.inl (some (.int 1))) (n, sl, hc a f0)) → (¬ mo_any tb bd i e → Q (.inl (some (.int 0))) (n, sl, hc a f0)) → mi_W (d + 1) 122 21 [some (.ref 3), some (.int (Int32.ofNat m)), some (.int (Int32.ofNat e)), some (.int (Int32.ofNat i)), o5] [] (n, sl, hc a f0) Q := by
  have hN8 := hT.1.1.2
  intro t
  induction t with
  | zero =>
    intro i o5 hi K1 K0
    refine b_122_21 _ _ _ ?_ ?_
    · intro z21
      exact absurd z21 (of_nn (by omega))
    · intro z21
      refine b_122_25 _ _ _ ?_ ?_
      · intro z25
        refine b_122_79 _ _ _ ?_
        exact K0 (fun ⟨j, h1, h2, _⟩ => by omega)
      · intro z25
        exact absurd ((i_le rfl rfl (by omega) (by omega)).mpr (by omega)) z25
  | succ t ih =>
    intro i o5 hi K1 K0
    have hix := ix_of (w := i) (m := 800) (by omega) (by omega)
    have hrow := (hT.1.2.1 i (Nat.zero_le _) (by omega)).1
    have hk : a.AI 2 3 0 i = Int32.ofNat (cz_k.getD (tb i).1 0) := hrow.1 0 (by decide) (by decide)
    obtain ⟨k15, k16, k9, k40⟩ := cz_kc (tb i).1
    have hj := mo_any_j (tb := tb) (bd := bd) (a := i) (b := i + 1) (c := e) (by omega) (by omega)
    rw [mo_any_1] at hj
    have nx : ¬ mo_bad tb bd i → ∀ o5, mi_W (d + 1) 122 73 [some (.ref 3), some (.int (Int32.ofNat m)), some (.int (Int32.ofNat e)), some (.int (Int32.ofNat i)), some (.int o5)] [] (n, sl, hc a f0) Q := by
      intro hb o5
      refine b_122_73 _ _ _ ?_
      rw [of_succ]
      exact ih (i + 1) _ (by omega) (fun h => K1 (hj.mpr (Or.inr h))) (fun h => K0 (fun h' => (hj.mp h').elim hb h))
    refine b_122_21 _ _ _ ?_ ?_
    · intro z21
      exact absurd z21 (of_nn (by omega))
    · intro z21
      refine b_122_25 _ _ _ ?_ ?_
      · intro z25
        exact absurd ((i_le rfl rfl (by omega) (by omega)).mp z25) (by omega)
      · intro z25
        refine b_122_30 _ _ _ _ _ _ (by first | (exact hc_o (by first | assumption | (exact ⟨by decide, rfl⟩))) | assumption | (exact (hc_far (by omega)).trans (by assumption))) (by omega) (by first | rfl | assumption) (by first | (exact hc_ai (by omega) (by first | assumption | (exact (ht9 (by assumption)).2.1) | (exact (ht9 (by assumption)).2.2.1) | (exact (ht9 (by assumption)).2.2.2) | rfl) (by decide)) | assumption | (exact (hc_far (by omega)).trans (by assumption))) (Or.inl (by omega)) (by first | assumption | (exact ix_of (by omega) (by omega)) | (exact ⟨by decide, rfl, by decide⟩)) ?_ ?_
        · intro z30
          rw [hk] at z30
          refine b_122_52 _ _ _ ?_
          first | exact K1 (hj.mpr (Or.inl (Or.inl (k15.mp ((of_eq (b := 15) (by omega) (by omega)).mp z30))))) | exact K1 (hj.mpr (Or.inl (Or.inr (Or.inl (k16.mp ((of_eq (b := 16) (by omega) (by omega)).mp (Classical.not_not.mp z45)))))))
        · intro z30
          rw [hk] at z30 ⊢
          refine b_122_45 _ _ _ ?_ ?_
          · intro z45
            have n19 : ¬ (tb i).1 = 19 := fun h => z30 (by rw [k15.mpr h]; rfl)
            have n20 : ¬ (tb i).1 = 20 := fun h => z45 (by rw [k16.mpr h]; rfl)
            refine b_122_54 _ _ _ ?_ ?_
            · intro z54
              have n8 : ¬ (tb i).1 = 8 := fun h => z54 (by rw [k9.mpr h]; rfl)
              exact nx (fun hb => hb.elim n19 (fun hb => hb.elim n20 (fun hb => n8 hb.1))) _
            · intro z54
              have h8 : (tb i).1 = 8 := k9.mp ((of_eq (b := 9) (by omega) (by omega)).mp (Classical.not_not.mp z54))
              rcases hcm : tb i with ⟨op, A, B, D, u, x, y, z, M, F⟩
              have h8' := h8
              rw [hcm] at h8'
              dsimp only at h8'
              subst h8'
              refine b_122_61 _ _ _ (by first | (exact hc_o (by first | assumption | (exact ⟨by decide, rfl⟩))) | assumption | (exact (hc_far (by omega)).trans (by assumption))) (by omega) ?_
              refine ct_nt hn (by omega) hT.2.1 hT.2.2 hcm hrow ?_
              have hbad : mo_bad tb bd i ↔ 16 < ma_tt bd M F := by
                unfold mo_bad
                rw [hcm]
                exact ⟨fun h => h.elim (fun h => absurd (show (8 : Nat) = 19 from h) (by decide)) (fun h => h.elim (fun h => absurd (show (8 : Nat) = 20 from h) (by decide)) (fun h => h.2)), fun h => Or.inr (Or.inr ⟨rfl, h⟩)⟩
              by_cases h16 : ma_tt bd M F ≤ 16
              · rw [if_pos h16]
                refine b_122_66 _ _ _ ?_ ?_
                · intro z66
                  exact nx (fun hb => by have := hbad.mp hb; omega) _
                · intro z66
                  exact absurd ((i_le (b := 16) rfl rfl (by omega) (by omega)).mpr h16) z66
              · rw [if_neg h16]
                refine b_122_66 _ _ _ ?_ ?_
                · intro z66
                  exact absurd z66 (by decide)
                · intro z66
                  refine b_122_71 _ _ _ ?_
                  exact K1 (hj.mpr (Or.inl (hbad.mpr (by omega))))
          · intro z45
            refine b_122_52 _ _ _ ?_
            first | exact K1 (hj.mpr (Or.inl (Or.inl (k15.mp ((of_eq (b := 15) (by omega) (by omega)).mp z30))))) | exact K1 (hj.mpr (Or.inl (Or.inr (Or.inl (k16.mp ((of_eq (b := 16) (by omega) (by omega)).mp (Classical.not_not.mp z45)))))))
theorem ct_out (hn : 575 ≤ n) (hT : cTb a N BN tb bd) (he : e ≤ N) (hmc : mo_c tb k m e) (K1 : mo_any tb bd m e → Q (.inl (some (.int 1))) (n, sl, hc a f0)) (K0 : ¬ mo_any tb bd m e → Q (.inl (some (.int 0))) (n, sl, hc a f0)) : mi_W (d + 1) 122 0 (mi_en 5 [.ref 3, .int (Int32.ofNat m)]) [] (n, sl, hc a f0) Q := by
  have hN8 := hT.1.1.2
  have hlt := mo_c_lt _ _ _ hmc
  have hix := ix_of (w := m) (m := 800) (by omega) (by omega)
  have hb := ct_bc hT.1.2.1 k m e he hmc
  refine b_122_0 _ _ _ (by first | (exact hc_o (by first | assumption | (exact ⟨by decide, rfl⟩))) | assumption | (exact (hc_far (by omega)).trans (by assumption))) (by omega) ?_
  refine cv_has hn hT.1.1.1 hN8 (by omega) (fun _ => ?_) (fun h => ?_)
  · refine b_122_5 _ _ _ ?_ ?_
    · intro z5
      first | (exact absurd z5 (by decide)) | (exact absurd (by decide) z5) | (exact absurd rfl z5) | (exact absurd z5 (of_nn (by omega))) | (exact absurd (of_np (by omega)) z5) | omega
    · intro z5
      refine b_122_8 _ _ _ _ _ _ (by first | (exact hc_o (by first | assumption | (exact ⟨by decide, rfl⟩))) | assumption | (exact (hc_far (by omega)).trans (by assumption))) (by omega) (by first | rfl | assumption) (by first | (exact hc_ai (by omega) (by first | assumption | (exact (ht9 (by assumption)).2.1) | (exact (ht9 (by assumption)).2.2.1) | (exact (ht9 (by assumption)).2.2.2) | rfl) (by decide)) | assumption | (exact (hc_far (by omega)).trans (by assumption))) (Or.inl (by omega)) (by first | assumption | (exact ix_of (by omega) (by omega)) | (exact ⟨by decide, rfl, by decide⟩)) ?_
      rw [hb]
      refine b_122_18 _ _ _ ?_
      exact ct_outl hn hT he (e - m) m _ (by omega) K1 K0
  · exact absurd (show m < N by omega) h
theorem ca_look {F : ma_R} (hn : 575 ≤ n) (hLv : cLv f0 gl) (hq : ¬ (80 ≤ q ∧ q < 496)) (hs : cSt a q S) (hT : cTb a N BN tb bd) (hS : mv_ok S) (hok : mz_ok tb N 100 0 S.at) (he : e ≤ N) (hmc : mo_c tb k S.at e) (hF : ma_go tb bd 103 S 0 = F) (K3 : mo_any tb bd S.at e → ∀ a', cAf a a' → a'.I 11 54 10 = 0 → a'.I 11 54 11 = 0 → Q (.inl (some (.int 3))) (n, sl, hc a' f0)) (KK : ¬ mo_any tb bd S.at e → ∀ a', cAf a a' → cRes a' F → Q (.inl (some (.int (Int32.ofNat F.1)))) (n, sl, hc a' f0)) : mi_W (e' + 115) 121 0 (mi_en 4 [.ref 54, .ref q]) [] (n, sl, hc a f0) Q := by
  have hlv := hLv.at
  have hgl := hLv.2
  have hqo : mh_o q 9 := hs.1
  have hq5 := hqo.1
  have hat : a.I 9 q 0 = Int32.ofNat S.at := hs.2.1.1
  have f0' : cAf a ((a.sI 11 54 10 0).sI 11 54 11 0) := cAf.sI.trans cAf.sI
  have hT0 : cTb ((a.sI 11 54 10 0).sI 11 54 11 0) N BN tb bd := hT
  have hs0 : cSt ((a.sI 11 54 10 0).sI 11 54 11 0) q S := hs
  have e10 : ((a.sI 11 54 10 0).sI 11 54 11 0).I 11 54 10 = 0 := rfl
  have e11 : ((a.sI 11 54 10 0).sI 11 54 11 0).I 11 54 11 = 0 := rfl
  have ho0 := lv_o ⟨0, by decide⟩
  dsimp only at ho0
  have ho05 := ho0.1
  have hix0 := ix_of (w := 0) (m := 104) (by omega) (by omega)
  have hat0 : ((a.sI 11 54 10 0).sI 11 54 11 0).I 9 q 0 = Int32.ofNat S.at := hat
  generalize hA : (a.sI 11 54 10 0).sI 11 54 11 0 = aa at *
  refine b_121_0 _ _ _ (by first | (exact hc_o (by first | assumption | (exact ⟨by decide, rfl⟩))) | assumption | (exact (hc_far (by omega)).trans (by assumption))) (by omega) (Nat.le_of_ble_eq_true rfl) (by first | (exact (congrFun (hw_I (by first | assumption | (exact ⟨by decide, rfl⟩)) (by decide)) _).trans (hc_o (by first | assumption | (exact ⟨by decide, rfl⟩)))) | assumption | (exact (hc_far (by omega)).trans (by assumption))) (by omega) (Nat.le_of_ble_eq_true rfl) (by first | (exact (congrFun (hw_2 (hw_I (by first | assumption | (exact ⟨by decide, rfl⟩)) (by decide)) (hw_I (by first | assumption | (exact ⟨by decide, rfl⟩)) (by decide))) _).trans (hc_o (by first | assumption | (exact ⟨by decide, rfl⟩)))) | assumption | (exact (hc_far (by omega)).trans (by assumption))) (by omega) (by first | rfl | assumption) (by first | (exact (congrFun (hw_2 (hw_I (by first | assumption | (exact ⟨by decide, rfl⟩)) (by decide)) (hw_I (by first | assumption | (exact ⟨by decide, rfl⟩)) (by decide))) _).trans (hc_o (by first | assumption | (exact ⟨by decide, rfl⟩)))) | assumption | (exact (hc_far (by omega)).trans (by assumption))) (by omega) (by first | rfl | assumption) (by first | (exact (congrFun (hw_2 (hw_I (by first | assumption | (exact ⟨by decide, rfl⟩)) (by decide)) (hw_I (by first | assumption | (exact ⟨by decide, rfl⟩)) (by decide))) _).trans (hc_o (by first | assumption | (exact ⟨by decide, rfl⟩)))) | assumption | (exact (hc_far (by omega)).trans (by assumption))) (by omega) ?_
  refine hw_W (hw_2 (hw_I (by first | assumption | (exact ⟨by decide, rfl⟩)) (by decide)) (hw_I (by first | assumption | (exact ⟨by decide, rfl⟩)) (by decide))) ?_
  rw [hA, hat0]
  refine ct_out hn hT0 he hmc (fun hb => ?_) (fun hb => ?_)
  · refine b_121_21 _ _ _ ?_ ?_
    · intro z21
      first | (exact absurd z21 (by decide)) | (exact absurd (by decide) z21) | (exact absurd rfl z21) | (exact absurd z21 (of_nn (by omega))) | (exact absurd (of_np (by omega)) z21) | omega
    · intro z21
      refine b_121_24 _ _ _ ?_
      exact K3 hb aa f0' e10 e11
  · refine b_121_21 _ _ _ ?_ ?_
    · intro z21
      refine b_121_26 _ _ _ _ _ _ _ (by first | (exact hc_o (by first | assumption | (exact ⟨by decide, rfl⟩))) | assumption | (exact (hc_far (by omega)).trans (by assumption))) (by omega) (by first | rfl | assumption) (by first | (exact hlv _) | assumption) (by omega) (by first | decide | assumption) (by first | assumption | (exact ix_of (by omega) (by omega)) | (exact ⟨by decide, rfl, by decide⟩)) (by first | (exact hgl _ (by omega)) | assumption) (by first | (exact hc_o (by first | assumption | (exact ⟨by decide, rfl⟩))) | assumption | (exact (hc_far (by omega)).trans (by assumption))) (by omega) ?_
      refine cs_copy (p := 80 + 4 * 0) hn ho0 hs0 (by omega) (fun a1 f1 s1 _ => ?_)
      have f1' : cAf aa a1 := cAf.fs f1 (by decide) (by decide)
      have hT1 : cTb a1 N BN tb bd := by
        obtain ⟨⟨⟨h1, h2⟩, h3, h4⟩, h5, h6⟩ := hT0
        have fz := fun k => f1.2 2 3 k (by omega)
        refine ⟨⟨⟨by rw [(fz 11).1]; exact h1, h2⟩, h3.to (fun m _ _ => ⟨fun k _ => by rw [(fz k).2.2.1], by rw [(fz 9).2.2.2]⟩) (fun _ _ _ => rfl), h4⟩, ?_, h6⟩
        unfold cBd
        rw [(fz 10).2.2.2]
        exact h5
      have k10 : a1.I 11 54 10 = 0 := (f1.2 11 54 10 (by omega)).1.trans e10
      have k11 : a1.I 11 54 11 = 0 := (f1.2 11 54 11 (by omega)).1.trans e11
      refine b_121_38 _ _ _ _ _ _ (by first | (exact hc_o (by first | assumption | (exact ⟨by decide, rfl⟩))) | assumption | (exact (hc_far (by omega)).trans (by assumption))) (by omega) (by first | rfl | assumption) (by first | (exact hc_ai (by omega) (by first | assumption | (exact (ht9 (by assumption)).2.1) | (exact (ht9 (by assumption)).2.2.1) | (exact (ht9 (by assumption)).2.2.2) | rfl) (by decide)) | assumption | (exact (hc_far (by omega)).trans (by assumption))) (by omega) (by first | assumption | (exact ix_of (by omega) (by omega)) | (exact ⟨by decide, rfl, by decide⟩)) ?_
      refine hw_W (hw_AI (by omega) rfl (by decide)) ?_
      have hNB := mo_c_nb (bd := bd) k S.at e hmc hb
      refine ca_loop (a0 := a) (F := F) (N := N) (BN := BN) (tb := tb) (bd := bd) hn hLv (KK hb) 20000 0 0 0 (a1.sAI 11 54 5 (upd (a1.AI 11 54 5) 0 (-3))) (fun _ => S) (fun _ => ma_sp tb bd S) (fun _ => (0, 0, 0)) rfl (by omega) (by omega) (by omega) ((f0'.trans f1').trans cAf.sAI) hT1 ⟨fun i hi => ?_, fun i hi => absurd hi (Nat.not_lt_zero i)⟩ k10 k11 ?_
      · have hi0 : i = 0 := by omega
        subst hi0
        refine ⟨s1, hS, hok, hNB, Or.inl ⟨?_, rfl⟩⟩
        rw [AI_at, upd_at]
      · rw [← hF]
        exact ma_tp_le (l := 0) (by decide)
    · intro z21
      first | (exact absurd z21 (by decide)) | (exact absurd (by decide) z21) | (exact absurd rfl z21) | (exact absurd z21 (of_nn (by omega))) | (exact absurd (of_np (by omega)) z21) | omega
end
