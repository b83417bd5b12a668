/-! the first object's reading: names, choices -/
theorem of_m1 {c : Nat} (h : c ≤ 1000000) : ¬ Int32.ofNat c = -1 := fun e => of_nn h (by rw [e]; decide)
section
variable {d n sl : Nat} {a a0 : mh_A} {σ σ0 : ms_S} {f0 : Nat → mi_C} {Q : (Option Value ⊕ Nat) → mi_H → Prop} {g : Nat → Int32} {L : Nat}
theorem cn_T.cong {p M c : Nat} {S W S' W' : Nat → Nat} {o o' : Nat → Int32} (h : cn_T a p M L c S W o) (hs : ∀ i, i < c → S' i = S i ∧ W' i = W i ∧ o' i = o i) : cn_T a p M L c S' W' o' := by
  obtain ⟨h1, h2, h3, h4, h5, h6, h7, h8, h9⟩ := h
  refine ⟨h1, h2, h3, h4, h5, h6, h7, h8, fun i hi => ?_⟩
  rw [(hs i hi).1, (hs i hi).2.1, (hs i hi).2.2]
  exact h9 i hi
theorem cEr.kc {y pc w : Nat} {ls : mi_L} {rest : List Value} (hf : mi_hf (mt_oc y) pc 15 (mt_hd y) = some none) (hn : 505 ≤ n) (h : cEr n sl f0 Q a w) : cEr n sl f0 (mi_Kc d y pc ls rest Q) a w := fun a' h1 h2 => hx_c hf hn (h a' h1 h2)
theorem cr_name {p M : Nat} {P : Nat × (Nat → Nat × Nat)} {σ' : ms_S} (hG : cG n sl f0) (h : cst a g L σ) (hT : cn_T a p M L P.1 (fun i => (P.2 i).1) (fun i => (P.2 i).2) (fun _ => -1)) (hA : ∀ A, (A = a ∧ ms_ni g σ P < P.1) ∨ (A = cn_add a p P.1 (Int32.ofNat σ.t.a) (Int32.ofNat (σ.t.b - σ.t.a)) (-1) ∧ ms_ni g σ P = P.1 ∧ P.1 < M) → cst A g L σ' ∧ cgo a σ A σ') (ok : σ.t.k = 38 → ¬ ms_ni g σ P = M → ∀ a', cst a' g L (σ'.nx g L) → cgo a σ a' (σ'.nx g L) → Q (.inl (some (.int (Int32.ofNat (ms_ni g σ P))))) (n, sl, hc a' f0)) (er : (¬ σ.t.k = 38 ∨ ms_ni g σ P = M) → cEr n sl f0 Q a σ.t.a) : mi_W (d + 7) 43 0 (mi_en 3 [.ref 15, .ref p]) [] (n, sl, hc a f0) Q := by
  have hn := hG.1
  have h40 := h.1.k40
  have h2 := h.1.2.2.2.1
  have e5 := h.1.2.2.2.2.1
  have e6 := h.1.2.2.2.2.2.1
  have hp := hT.1
  have hp5 := hp.1
  have hcM := hT.2.2.2.2.2.2.1
  have hM8 := hT.2.2.2.2.2.2.2.1
  refine b_43_0 _ _ _ (by first | (exact hc_o (by first | assumption | (exact ⟨by decide, rfl⟩))) | assumption | (exact (hc_far (by omega)).trans (by assumption))) (by omega) (by first | rfl | assumption) (by first | (exact hc_o (by first | assumption | (exact ⟨by decide, rfl⟩))) | assumption | (exact (hc_far (by omega)).trans (by assumption))) (by omega) (by first | rfl | assumption) ?_ ?_
  · intro z0
    have hk' : ¬ σ.t.k = 38 := fun e => z0 (by rw [h2, e]; rfl)
    refine b_43_17 _ _ _ ?_
    refine b_43_18 _ _ _ (by first | (exact hc_o (by first | assumption | (exact ⟨by decide, rfl⟩))) | assumption | (exact (hc_far (by omega)).trans (by assumption))) (by omega) ?_
    refine cr_re0 hn hG.2.1 ?_
    refine hx_c (by decide +kernel) (by omega) ?_
    exact (er (Or.inl hk')).at cF.re e5
  · intro z0
    have hk' : σ.t.k = 38 := (i_eq (b := 38) h2 rfl (by omega) (by omega)).mp (Classical.not_not.mp z0)
    refine b_43_13 _ _ _ ?_
    refine b_43_18 _ _ _ (by first | (exact hc_o (by first | assumption | (exact ⟨by decide, rfl⟩))) | assumption | (exact (hc_far (by omega)).trans (by assumption))) (by omega) ?_
    refine cr_re1 hn hG.2.1 ?_
    refine b_43_21 _ _ _ (by first | (exact hc_o (by first | assumption | (exact ⟨by decide, rfl⟩))) | assumption | (exact (hc_far (by omega)).trans (by assumption))) (by omega) (by first | rfl | assumption) (by first | (exact hc_o (by first | assumption | (exact ⟨by decide, rfl⟩))) | assumption | (exact (hc_far (by omega)).trans (by assumption))) (by omega) (by first | rfl | assumption) (by first | (exact hc_o (by first | assumption | (exact ⟨by decide, rfl⟩))) | assumption | (exact (hc_far (by omega)).trans (by assumption))) (by omega) (by first | rfl | assumption) (by first | (exact hc_o (by first | assumption | (exact ⟨by decide, rfl⟩))) | assumption | (exact (hc_far (by omega)).trans (by assumption))) (by omega) (by first | rfl | assumption) (by first | (exact hc_o (by first | assumption | (exact ⟨by decide, rfl⟩))) | assumption | (exact (hc_far (by omega)).trans (by assumption))) (by omega) ?_
    refine cn_fd (σ := σ) hn h hT (fun hf => ?_) (fun hf => ?_)
    · refine b_43_40 _ _ _ ?_ ?_
      · intro z40
        refine b_43_74 _ _ _ (by first | (exact hc_o (by first | assumption | (exact ⟨by decide, rfl⟩))) | assumption | (exact (hc_far (by omega)).trans (by assumption))) (by omega) (by first | rfl | assumption) (by first | (exact hc_o (by first | assumption | (exact ⟨by decide, rfl⟩))) | assumption | (exact (hc_far (by omega)).trans (by assumption))) (by omega) ?_
        refine cr_adv (σ := σ') (d := d) hG (by first | exact (hA _ (Or.inl ⟨rfl, hf⟩)).1 | exact (hA _ (Or.inr ⟨rfl, hf, hr⟩)).1) (fun a' h1 h3 h4 h5 => ?_)
        refine b_43_81 _ _ _ ?_
        first
          | exact ok hk' (by omega) a' h1 ((hA _ (Or.inl ⟨rfl, hf⟩)).2.trans h3)
          | (rw [← hf]; exact ok hk' (by omega) a' h1 ((hA _ (Or.inr ⟨rfl, hf, hr⟩)).2.trans h3))
      · intro z40
        exact absurd (Classical.not_not.mp z40) (of_m1 (by omega))
    · refine b_43_40 _ _ _ ?_ ?_
      · intro z40
        first | (exact absurd z40 (by decide)) | (exact absurd (by decide) z40) | (exact absurd rfl z40) | (exact absurd z40 (of_nn (by omega))) | (exact absurd (of_np (by omega)) z40) | omega
      · intro z40
        refine b_43_46 _ _ _ (by first | (exact hc_o (by first | assumption | (exact ⟨by decide, rfl⟩))) | assumption | (exact (hc_far (by omega)).trans (by assumption))) (by omega) ?_
        refine cn_room hn hT (fun hr => ?_) (fun hr => ?_)
        · refine b_43_51 _ _ _ (by first | (exact hc_o (by first | assumption | (exact ⟨by decide, rfl⟩))) | assumption | (exact (hc_far (by omega)).trans (by assumption))) (by omega) ?_
          refine cr_re1 hn hG.2.1 ?_
          refine b_43_54 _ _ _ (by first | (exact hc_o (by first | assumption | (exact ⟨by decide, rfl⟩))) | assumption | (exact (hc_far (by omega)).trans (by assumption))) (by omega) (by first | rfl | assumption) (by first | (exact hc_o (by first | assumption | (exact ⟨by decide, rfl⟩))) | assumption | (exact (hc_far (by omega)).trans (by assumption))) (by omega) (by first | rfl | assumption) (by first | (exact hc_o (by first | assumption | (exact ⟨by decide, rfl⟩))) | assumption | (exact (hc_far (by omega)).trans (by assumption))) (by omega) (by first | rfl | assumption) (by first | (exact hc_o (by first | assumption | (exact ⟨by decide, rfl⟩))) | assumption | (exact (hc_far (by omega)).trans (by assumption))) (by omega) (by first | rfl | assumption) (by first | (exact hc_o (by first | assumption | (exact ⟨by decide, rfl⟩))) | assumption | (exact (hc_far (by omega)).trans (by assumption))) (by omega) ?_
          rw [e5, e6]
          refine cn_addm hn hT hr ?_
          refine b_43_73 _ _ _ ?_
          refine b_43_74 _ _ _ (by first | (exact hc_o (by first | assumption | (exact ⟨by decide, rfl⟩))) | assumption | (exact (hc_far (by omega)).trans (by assumption))) (by omega) (by first | rfl | assumption) (by first | (exact hc_o (by first | assumption | (exact ⟨by decide, rfl⟩))) | assumption | (exact (hc_far (by omega)).trans (by assumption))) (by omega) ?_
          refine cr_adv (σ := σ') (d := d) hG (by first | exact (hA _ (Or.inl ⟨rfl, hf⟩)).1 | exact (hA _ (Or.inr ⟨rfl, hf, hr⟩)).1) (fun a' h1 h3 h4 h5 => ?_)
          refine b_43_81 _ _ _ ?_
          first
            | exact ok hk' (by omega) a' h1 ((hA _ (Or.inl ⟨rfl, hf⟩)).2.trans h3)
            | (rw [← hf]; exact ok hk' (by omega) a' h1 ((hA _ (Or.inr ⟨rfl, hf, hr⟩)).2.trans h3))
        · refine b_43_51 _ _ _ (by first | (exact hc_o (by first | assumption | (exact ⟨by decide, rfl⟩))) | assumption | (exact (hc_far (by omega)).trans (by assumption))) (by omega) ?_
          refine cr_re0 hn hG.2.1 ?_
          refine hx_c (by decide +kernel) (by omega) ?_
          exact (er (Or.inr (hf.trans hr))).at cF.re e5
theorem ms_pa_H {i : Nat} {σ' : ms_S} (h : ms_pa g L σ = .ok (i, σ')) : σ'.H = σ.H := by
  unfold ms_pa at h
  split at h
  · split at h
    · cases h
    · cases h
      rfl
  · cases h
theorem ms_pa_P {i : Nat} {σ' : ms_S} (h : ms_pa g L σ = .ok (i, σ')) : ms_ni g σ σ.P < σ'.P.1 := by
  have hle := (ms_fd_le (g := g) (a := σ.t.a) (b := σ.t.b) (tb := σ.P.2) σ.P.1 0).2
  unfold ms_pa at h
  split at h
  · split at h
    · cases h
    · cases h
      show ms_ni g σ σ.P < (ms_nn g σ σ.P).1
      unfold ms_nn
      split
      · rename_i e
        rw [e]
        exact Nat.lt_succ_self _
      · rename_i e
        have : ms_ni g σ σ.P ≤ 0 + σ.P.1 := hle
        omega
  · cases h
theorem cr_pa (hG : cG n sl f0) (h : cst a g L σ) (ok : ∀ i σ', ms_pa g L σ = .ok (i, σ') → i < 8 → σ'.n = σ.n → i = ms_ni g σ σ.P → ∀ a', cst a' g L σ' → cgo a σ a' σ' → Q (.inl (some (.int (Int32.ofNat i)))) (n, sl, hc a' f0)) (er : ∀ w, ms_pa g L σ = .error w → cEr n sl f0 Q a w) : mi_W (d + 7) 43 0 (mi_en 3 [.ref 15, .ref 16]) [] (n, sl, hc a f0) Q := by
  have hle := h.1.le
  obtain ⟨r1, r2, r3, rP, rT, rN, rH, rO⟩ := h
  have hni : ms_ni g σ σ.P ≤ σ.P.1 := by
    unfold ms_ni
    have := (ms_fd_le (g := g) (a := σ.t.a) (b := σ.t.b) (tb := σ.P.2) σ.P.1 0).2
    omega
  have hcM := rP.2.2.2.2.2.2.1
  refine cr_name (σ' := σ.sP (ms_nn g σ σ.P)) hG ⟨r1, r2, r3, rP, rT, rN, rH, rO⟩ rP (fun A hA => ?_) (fun hk hni' a' h1 h2 => ?_) (fun he => ?_)
  · rcases hA with ⟨rfl, hlt⟩ | ⟨rfl, heq, hlt⟩
    · have e : ms_nn g σ σ.P = σ.P := by unfold ms_nn; rw [if_neg (by omega)]
      rw [e]
      exact ⟨⟨r1, r2, r3, rP, rT, rN, rH, rO⟩, ⟨cF.re, fun _ _ => ⟨fun _ _ => rfl, rfl⟩, ⟨Nat.le_refl _, Nat.le_refl _, fun _ _ => rfl, fun _ _ => rfl⟩, rfl⟩⟩
    · have e : ms_nn g σ σ.P = (σ.P.1 + 1, va_up σ.P.2 σ.P.1 (σ.t.a, σ.t.b - σ.t.a)) := by unfold ms_nn; rw [if_pos heq]
      rw [e]
      refine ⟨⟨r1, r2, r3, (rP.add hlt (by omega)).cong (fun i hi => ?_), rT.oth (by decide), rN.oth (by decide), rH.oth (by decide), fun i hi => Nat.lt_succ_of_lt (rO i hi)⟩, cn_go rfl rfl rfl rfl⟩
      by_cases ei : i = σ.P.1
      · subst ei
        show (va_up σ.P.2 σ.P.1 (σ.t.a, σ.t.b - σ.t.a) σ.P.1).1 = _ ∧ (va_up σ.P.2 σ.P.1 (σ.t.a, σ.t.b - σ.t.a) σ.P.1).2 = _ ∧ _
        rw [va_eq, va_eq, va_eq, va_eq]
        exact ⟨rfl, rfl, rfl⟩
      · show (va_up σ.P.2 σ.P.1 (σ.t.a, σ.t.b - σ.t.a) i).1 = _ ∧ (va_up σ.P.2 σ.P.1 (σ.t.a, σ.t.b - σ.t.a) i).2 = _ ∧ _
        rw [va_ne ei, va_ne ei, va_ne ei, va_ne ei]
        exact ⟨rfl, rfl, rfl⟩
  · exact ok _ ((σ.sP (ms_nn g σ σ.P)).nx g L) (by unfold ms_pa; rw [if_pos hk, if_neg hni']) (by omega) rfl rfl a' h1 h2
  · refine er _ ?_
    unfold ms_pa
    rcases he with he | he
    · rw [if_neg he]
    · by_cases hk : σ.t.k = 38
      · rw [if_pos hk, if_pos he]
      · rw [if_neg hk]
theorem cr_to (hG : cG n sl f0) (h : cst a g L σ) (ok : ∀ i σ', ms_to g L σ = .ok (i, σ') → i < 4 → σ'.n = σ.n → i = ms_ni g σ σ.T → ∀ a', cst a' g L σ' → cgo a σ a' σ' → Q (.inl (some (.int (Int32.ofNat i)))) (n, sl, hc a' f0)) (er : ∀ w, ms_to g L σ = .error w → cEr n sl f0 Q a w) : mi_W (d + 7) 43 0 (mi_en 3 [.ref 15, .ref 20]) [] (n, sl, hc a f0) Q := by
  have hle := h.1.le
  obtain ⟨r1, r2, r3, rP, rT, rN, rH, rO⟩ := h
  have hni : ms_ni g σ σ.T ≤ σ.T.1 := by
    unfold ms_ni
    have := (ms_fd_le (g := g) (a := σ.t.a) (b := σ.t.b) (tb := σ.T.2) σ.T.1 0).2
    omega
  have hcM := rT.2.2.2.2.2.2.1
  refine cr_name (σ' := σ.sT (ms_nn g σ σ.T)) hG ⟨r1, r2, r3, rP, rT, rN, rH, rO⟩ rT (fun A hA => ?_) (fun hk hni' a' h1 h2 => ?_) (fun he => ?_)
  · rcases hA with ⟨rfl, hlt⟩ | ⟨rfl, heq, hlt⟩
    · have e : ms_nn g σ σ.T = σ.T := by unfold ms_nn; rw [if_neg (by omega)]
      rw [e]
      exact ⟨⟨r1, r2, r3, rP, rT, rN, rH, rO⟩, ⟨cF.re, fun _ _ => ⟨fun _ _ => rfl, rfl⟩, ⟨Nat.le_refl _, Nat.le_refl _, fun _ _ => rfl, fun _ _ => rfl⟩, rfl⟩⟩
    · have e : ms_nn g σ σ.T = (σ.T.1 + 1, va_up σ.T.2 σ.T.1 (σ.t.a, σ.t.b - σ.t.a)) := by unfold ms_nn; rw [if_pos heq]
      rw [e]
      refine ⟨⟨r1, r2, r3, rP.oth (by decide), (rT.add hlt (by omega)).cong (fun i hi => ?_), rN.oth (by decide), rH.oth (by decide), rO⟩, cn_go rfl rfl rfl rfl⟩
      by_cases ei : i = σ.T.1
      · subst ei
        show (va_up σ.T.2 σ.T.1 (σ.t.a, σ.t.b - σ.t.a) σ.T.1).1 = _ ∧ (va_up σ.T.2 σ.T.1 (σ.t.a, σ.t.b - σ.t.a) σ.T.1).2 = _ ∧ _
        rw [va_eq, va_eq, va_eq, va_eq]
        exact ⟨rfl, rfl, rfl⟩
      · show (va_up σ.T.2 σ.T.1 (σ.t.a, σ.t.b - σ.t.a) i).1 = _ ∧ (va_up σ.T.2 σ.T.1 (σ.t.a, σ.t.b - σ.t.a) i).2 = _ ∧ _
        rw [va_ne ei, va_ne ei, va_ne ei, va_ne ei]
        exact ⟨rfl, rfl, rfl⟩
  · exact ok _ ((σ.sT (ms_nn g σ σ.T)).nx g L) (by unfold ms_to; rw [if_pos hk, if_neg hni']) (by omega) rfl rfl a' h1 h2
  · refine er _ ?_
    unfold ms_to
    rcases he with he | he
    · rw [if_neg he]
    · by_cases hk : σ.t.k = 38
      · rw [if_pos hk, if_pos he]
      · rw [if_neg hk]
theorem cr_va (hG : cG n sl f0) (h : cst a g L σ) (ok : ∀ i σ', ms_va g L σ = .ok (i, σ') → i < 8 → σ'.n = σ.n → i = ms_ni g σ σ.N → ∀ a', cst a' g L σ' → cgo a σ a' σ' → Q (.inl (some (.int (Int32.ofNat i)))) (n, sl, hc a' f0)) (er : ∀ w, ms_va g L σ = .error w → cEr n sl f0 Q a w) : mi_W (d + 7) 43 0 (mi_en 3 [.ref 15, .ref 28]) [] (n, sl, hc a f0) Q := by
  have hle := h.1.le
  obtain ⟨r1, r2, r3, rP, rT, rN, rH, rO⟩ := h
  have hni : ms_ni g σ σ.N ≤ σ.N.1 := by
    unfold ms_ni
    have := (ms_fd_le (g := g) (a := σ.t.a) (b := σ.t.b) (tb := σ.N.2) σ.N.1 0).2
    omega
  have hcM := rN.2.2.2.2.2.2.1
  refine cr_name (σ' := σ.sN (ms_nn g σ σ.N)) hG ⟨r1, r2, r3, rP, rT, rN, rH, rO⟩ rN (fun A hA => ?_) (fun hk hni' a' h1 h2 => ?_) (fun he => ?_)
  · rcases hA with ⟨rfl, hlt⟩ | ⟨rfl, heq, hlt⟩
    · have e : ms_nn g σ σ.N = σ.N := by unfold ms_nn; rw [if_neg (by omega)]
      rw [e]
      exact ⟨⟨r1, r2, r3, rP, rT, rN, rH, rO⟩, ⟨cF.re, fun _ _ => ⟨fun _ _ => rfl, rfl⟩, ⟨Nat.le_refl _, Nat.le_refl _, fun _ _ => rfl, fun _ _ => rfl⟩, rfl⟩⟩
    · have e : ms_nn g σ σ.N = (σ.N.1 + 1, va_up σ.N.2 σ.N.1 (σ.t.a, σ.t.b - σ.t.a)) := by unfold ms_nn; rw [if_pos heq]
      rw [e]
      refine ⟨⟨r1, r2, r3, rP.oth (by decide), rT.oth (by decide), (rN.add hlt (by omega)).cong (fun i hi => ?_), rH.oth (by decide), rO⟩, cn_go rfl rfl rfl rfl⟩
      by_cases ei : i = σ.N.1
      · subst ei
        show (va_up σ.N.2 σ.N.1 (σ.t.a, σ.t.b - σ.t.a) σ.N.1).1 = _ ∧ (va_up σ.N.2 σ.N.1 (σ.t.a, σ.t.b - σ.t.a) σ.N.1).2 = _ ∧ _
        rw [va_eq, va_eq, va_eq, va_eq]
        exact ⟨rfl, rfl, rfl⟩
      · show (va_up σ.N.2 σ.N.1 (σ.t.a, σ.t.b - σ.t.a) i).1 = _ ∧ (va_up σ.N.2 σ.N.1 (σ.t.a, σ.t.b - σ.t.a) i).2 = _ ∧ _
        rw [va_ne ei, va_ne ei, va_ne ei, va_ne ei]
        exact ⟨rfl, rfl, rfl⟩
  · exact ok _ ((σ.sN (ms_nn g σ σ.N)).nx g L) (by unfold ms_va; rw [if_pos hk, if_neg hni']) (by omega) rfl rfl a' h1 h2
  · refine er _ ?_
    unfold ms_va
    rcases he with he | he
    · rw [if_neg he]
    · by_cases hk : σ.t.k = 38
      · rw [if_pos hk, if_pos he]
      · rw [if_neg hk]
theorem ms_fh_at {A m p : Nat} {tb : Nat → Nat × Nat × Nat} {i : Nat} : ∀ (t j : Nat), j ≤ i → i < j + t → ((tb i).2.2 = p ∧ (tb i).2.1 = m ∧ mr_sm g (tb i).1 A (tb i).2.1) → (∀ e, j ≤ e → e < i → ¬ ((tb e).2.2 = p ∧ (tb e).2.1 = m ∧ mr_sm g (tb e).1 A (tb e).2.1)) → ms_fh g A m p tb t j = i := by
  intro t
  induction t with
  | zero => intro j h1 h2; omega
  | succ t ih =>
    intro j h1 h2 hp hno
    unfold ms_fh
    by_cases e : j = i
    · subst e
      rw [if_pos hp]
    · rw [if_neg (hno j (Nat.le_refl _) (by omega))]
      exact ih (j + 1) (by omega) (by omega) hp (fun e h3 h4 => hno e (by omega) h4)
theorem ms_fh_no {A m p : Nat} {tb : Nat → Nat × Nat × Nat} : ∀ (t j : Nat), (∀ e, j ≤ e → e < j + t → ¬ ((tb e).2.2 = p ∧ (tb e).2.1 = m ∧ mr_sm g (tb e).1 A (tb e).2.1)) → ms_fh g A m p tb t j = j + t := by
  intro t
  induction t with
  | zero => intro j _; rfl
  | succ t ih =>
    intro j hno
    unfold ms_fh
    rw [if_neg (hno j (Nat.le_refl _) (by omega)), ih (j + 1) (fun e h1 h2 => hno e (by omega) (by omega))]
    omega
theorem cst.addH {x m i : Nat} (h : cst a g L σ) (hc8 : σ.H.1 < 8) (hx : x + m ≤ L) (hi : i < σ.P.1) : cst (cn_add a 24 σ.H.1 (Int32.ofNat x) (Int32.ofNat m) (Int32.ofNat i)) g L (σ.sH (σ.H.1 + 1, va_up σ.H.2 σ.H.1 (x, m, i))) := by
  obtain ⟨q1, q2, q3, q4, q5, q6, q7, q8⟩ := h
  refine ⟨q1, q2, q3, q4.oth (by decide), q5.oth (by decide), q6.oth (by decide), (q7.add hc8 hx).cong (fun j hj => ?_), fun j hj => ?_⟩
  · show (va_up σ.H.2 σ.H.1 (x, m, i) j).1 = _ ∧ (va_up σ.H.2 σ.H.1 (x, m, i) j).2.1 = _ ∧ Int32.ofNat (va_up σ.H.2 σ.H.1 (x, m, i) j).2.2 = _
    by_cases ej : j = σ.H.1
    · subst ej
      rw [va_eq, va_eq, va_eq, va_eq]
      exact ⟨rfl, rfl, rfl⟩
    · rw [va_ne ej, va_ne ej, va_ne ej, va_ne ej]
      exact ⟨rfl, rfl, rfl⟩
  · show (va_up σ.H.2 σ.H.1 (x, m, i) j).2.2 < σ.P.1
    by_cases ej : j = σ.H.1
    · rw [ej, va_eq]
      exact hi
    · rw [va_ne ej]
      exact q8 j (by have : j < σ.H.1 + 1 := hj; omega)
theorem cr_hc (hG : cG n sl f0) (h : cst a g L σ) (ok : ∀ i σ', ms_hc g L σ = .ok (i, σ') → i < 8 → σ'.n = σ.n → ∀ a', cst a' g L σ' → cgo a σ a' σ' → Q (.inl (some (.int (Int32.ofNat i)))) (n, sl, hc a' f0)) (er : ∀ w, ms_hc g L σ = .error w → cEr n sl f0 Q a w) : mi_W (d + 8) 49 0 (mi_en 5 [.ref 15]) [] (n, sl, hc a f0) Q := by
  have hn := hG.1
  have h40 := h.1.k40
  have h2 := h.1.2.2.2.1
  have e5 := h.1.2.2.2.2.1
  have e6 := h.1.2.2.2.2.2.1
  have hle := h.1.le
  have rH := h.2.2.2.2.2.2.1
  have rO := h.2.2.2.2.2.2.2
  have rP := h.2.2.2.1
  have hcM := rH.2.2.2.2.2.2.1
  have hpM := rP.2.2.2.2.2.2.1
  have hp24 := rH.1
  have hp16 := rP.1
  refine b_49_0 _ _ _ (by first | (exact hc_o (by first | assumption | (exact ⟨by decide, rfl⟩))) | assumption | (exact (hc_far (by omega)).trans (by assumption))) (by omega) (by first | rfl | assumption) (by first | (exact hc_o (by first | assumption | (exact ⟨by decide, rfl⟩))) | assumption | (exact (hc_far (by omega)).trans (by assumption))) (by omega) (by first | rfl | assumption) ?_ ?_
  · intro z0
    have hk' : ¬ σ.t.k = 38 := fun e => z0 (by rw [h2, e]; rfl)
    refine b_49_17 _ _ _ ?_
    refine b_49_18 _ _ _ (by first | (exact hc_o (by first | assumption | (exact ⟨by decide, rfl⟩))) | assumption | (exact (hc_far (by omega)).trans (by assumption))) (by omega) ?_
    refine cr_re0 hn hG.2.1 ?_
    refine hx_c (by decide +kernel) (by omega) ?_
    exact (er σ.t.a (by unfold ms_hc; rw [if_neg hk'])).at cF.re e5
  · intro z0
    have hk' : σ.t.k = 38 := (i_eq (b := 38) h2 rfl (by omega) (by omega)).mp (Classical.not_not.mp z0)
    refine b_49_13 _ _ _ ?_
    refine b_49_18 _ _ _ (by first | (exact hc_o (by first | assumption | (exact ⟨by decide, rfl⟩))) | assumption | (exact (hc_far (by omega)).trans (by assumption))) (by omega) ?_
    refine cr_re1 hn hG.2.1 ?_
    refine b_49_21 _ _ _ (by first | (exact hc_o (by first | assumption | (exact ⟨by decide, rfl⟩))) | assumption | (exact (hc_far (by omega)).trans (by assumption))) (by omega) (by first | rfl | assumption) (by first | (exact hc_o (by first | assumption | (exact ⟨by decide, rfl⟩))) | assumption | (exact (hc_far (by omega)).trans (by assumption))) (by omega) (by first | rfl | assumption) (by first | (exact hc_o (by first | assumption | (exact ⟨by decide, rfl⟩))) | assumption | (exact (hc_far (by omega)).trans (by assumption))) (by omega) (by first | rfl | assumption) (by first | (exact hc_o (by first | assumption | (exact ⟨by decide, rfl⟩))) | assumption | (exact (hc_far (by omega)).trans (by assumption))) (by omega) (by first | rfl | assumption) (by first | (exact hc_o (by first | assumption | (exact ⟨by decide, rfl⟩))) | assumption | (exact (hc_far (by omega)).trans (by assumption))) (by omega) (by first | rfl | assumption) (by first | (exact hc_o (by first | assumption | (exact ⟨by decide, rfl⟩))) | assumption | (exact (hc_far (by omega)).trans (by assumption))) (by omega) ?_
    rw [e5, e6]
    refine cr_adv (d := d + 1) hG h (fun a1 h1 g1 hI hJ => ?_)
    have k40 := h1.1.k40
    have k2 := h1.1.2.2.2.1
    have k5 := h1.1.2.2.2.2.1
    refine b_49_44 _ _ _ (by first | (exact hc_o (by first | assumption | (exact ⟨by decide, rfl⟩))) | assumption | (exact (hc_far (by omega)).trans (by assumption))) (by omega) (by first | rfl | assumption) (by first | (exact hc_o (by first | assumption | (exact ⟨by decide, rfl⟩))) | assumption | (exact (hc_far (by omega)).trans (by assumption))) (by omega) (by first | rfl | assumption) ?_ ?_
    · intro z44
      have hk2 : ¬ (σ.nx g L).t.k = 38 := fun e => z44 (by rw [k2, e]; rfl)
      refine b_49_61 _ _ _ ?_
      refine b_49_62 _ _ _ (by first | (exact hc_o (by first | assumption | (exact ⟨by decide, rfl⟩))) | assumption | (exact (hc_far (by omega)).trans (by assumption))) (by omega) ?_
      refine cr_re0 hn hG.2.1 ?_
      refine hx_c (by decide +kernel) (by omega) ?_
      exact (er (σ.nx g L).t.a (by unfold ms_hc; rw [if_pos hk', if_neg hk2])).at g1.1 k5
    · intro z44
      have hk2 : (σ.nx g L).t.k = 38 := (i_eq (b := 38) k2 rfl (by omega) (by omega)).mp (Classical.not_not.mp z44)
      refine b_49_57 _ _ _ ?_
      refine b_49_62 _ _ _ (by first | (exact hc_o (by first | assumption | (exact ⟨by decide, rfl⟩))) | assumption | (exact (hc_far (by omega)).trans (by assumption))) (by omega) ?_
      refine cr_re1 hn hG.2.1 ?_
      refine b_49_65 _ _ _ (by first | (exact hc_o (by first | assumption | (exact ⟨by decide, rfl⟩))) | assumption | (exact (hc_far (by omega)).trans (by assumption))) (by omega) (by first | rfl | assumption) (by first | (exact hc_o (by first | assumption | (exact ⟨by decide, rfl⟩))) | assumption | (exact (hc_far (by omega)).trans (by assumption))) (by omega) (by first | rfl | assumption) (by first | (exact hc_o (by first | assumption | (exact ⟨by decide, rfl⟩))) | assumption | (exact (hc_far (by omega)).trans (by assumption))) (by omega) (by first | rfl | assumption) (by first | (exact hc_o (by first | assumption | (exact ⟨by decide, rfl⟩))) | assumption | (exact (hc_far (by omega)).trans (by assumption))) (by omega) (by first | rfl | assumption) (by first | (exact hc_o (by first | assumption | (exact ⟨by decide, rfl⟩))) | assumption | (exact (hc_far (by omega)).trans (by assumption))) (by omega) (by first | rfl | assumption) (by first | (exact hc_o (by first | assumption | (exact ⟨by decide, rfl⟩))) | assumption | (exact (hc_far (by omega)).trans (by assumption))) (by omega) (by first | rfl | assumption) (by first | (exact hc_o (by first | assumption | (exact ⟨by decide, rfl⟩))) | assumption | (exact (hc_far (by omega)).trans (by assumption))) (by omega) ?_
      refine cn_fd (σ := σ.nx g L) hn h1 h1.2.2.2.1 (fun hf => ?_) (fun hf => ?_)
      · have hpf : ms_hp g L σ < σ.P.1 := hf
        have how : ∀ i, i < σ.H.1 → (Int32.ofNat (σ.H.2 i).2.2 = Int32.ofNat (ms_ni g (σ.nx g L) σ.P) ↔ (σ.H.2 i).2.2 = ms_hp g L σ) := fun i hi => of_eq (by have := rO i hi; omega) (by have : ms_ni g (σ.nx g L) σ.P < σ.P.1 := hf; omega)
        refine b_49_93 _ _ _ (by first | (exact hc_o (by first | assumption | (exact ⟨by decide, rfl⟩))) | assumption | (exact (hc_far (by omega)).trans (by assumption))) (by omega) ?_
        refine cn_find (g := g) (L := L) hn h1.2.2.2.2.2.2.1 h1.1.2.1 h1.1.2.2.1 (by omega) (fun i hi hq hno => ?_) (fun hno => ?_)
        · have hih : ms_hi g L σ = i := ms_fh_at σ.H.1 0 (Nat.zero_le _) (by have : i < σ.H.1 := hi; omega) ⟨(how i hi).mp hq.1, hq.2.1, (show mr_sm g (σ.H.2 i).1 σ.t.a (σ.H.2 i).2.1 by rw [show (σ.H.2 i).2.1 = _ from hq.2.1]; exact hq.2.2)⟩ (fun e _ h2 h3 => hno e h2 ⟨(how e (by have : i < σ.H.1 := hi; omega)).mpr h3.1, h3.2.1, by rw [← h3.2.1]; exact h3.2.2⟩)
          have hi8 : i < σ.H.1 := hi
          refine b_49_96 _ _ _ ?_ ?_
          · intro z96
            refine b_49_114 _ _ _ ?_
            refine b_49_119 _ _ _ (by first | (exact hc_o (by first | assumption | (exact ⟨by decide, rfl⟩))) | assumption | (exact (hc_far (by omega)).trans (by assumption))) (by omega) ?_
            refine cr_at hn hG.2.1 (fun _ => ?_) (fun e => ?_)
            · have hi8' : ¬ ms_hi g L σ = 8 := by omega
              have hsp : ms_hc g L σ = ms_eb (ms_pa g L (σ.nx g L)) (fun _ σ2 => .ok (ms_hi g L σ, σ2.sH (ms_hh g L σ))) := by unfold ms_hc; rw [if_pos hk', if_pos hk2, if_neg hi8']
              refine b_49_122 _ _ _ (by first | (exact hc_o (by first | assumption | (exact ⟨by decide, rfl⟩))) | assumption | (exact (hc_far (by omega)).trans (by assumption))) (by omega) (by first | rfl | assumption) (by first | (exact hc_o (by first | assumption | (exact ⟨by decide, rfl⟩))) | assumption | (exact (hc_far (by omega)).trans (by assumption))) (by omega) ?_
              refine cr_pa (d := d) hG h1 (fun i2 σ2 hok hi2 hn2 hi3 a2 h3 g3 => ?_) (fun w hw => ?_)
              · refine b_49_130 _ _ _ ?_ ?_
                · intro z130
                  exact absurd z130 (of_m1 (by omega))
                · intro z130
                  refine b_49_137 _ _ _ ?_
                  refine b_49_152 _ _ _ ?_
                  have ehh : ms_hh g L σ = σ.H := by unfold ms_hh; rw [if_neg (by omega)]
                  have hHH : σ2.H = σ.H := (ms_pa_H hok).trans rfl
                  have hs2 : ms_hc g L σ = .ok (ms_hi g L σ, σ2.sH (ms_hh g L σ)) := by rw [hsp, hok]; rfl
                  rw [ehh, ← hHH] at hs2
                  rw [← hih]
                  exact ok _ _ hs2 (by omega) hn2 a2 h3 (g1.trans g3)
              · exact cEr.kc (by decide +kernel) (by omega) ((er w (by rw [hsp, hw]; rfl)).go g1.1)
            · exact absurd e (by decide)
          · intro z96
            exact absurd (Classical.not_not.mp z96) (of_m1 (by omega))
        · have hih : ms_hi g L σ = σ.H.1 := (ms_fh_no σ.H.1 0 (fun e _ h2 h3 => hno e (by show e < σ.H.1; omega) ⟨(how e (by omega)).mpr h3.1, h3.2.1, by rw [← h3.2.1]; exact h3.2.2⟩)).trans (Nat.zero_add _)
          refine b_49_96 _ _ _ ?_ ?_
          · intro z96
            first | (exact absurd z96 (by decide)) | (exact absurd (by decide) z96) | (exact absurd rfl z96) | (exact absurd z96 (of_nn (by omega))) | (exact absurd (of_np (by omega)) z96) | omega
          · intro z96
            refine b_49_104 _ _ _ (by first | (exact hc_o (by first | assumption | (exact ⟨by decide, rfl⟩))) | assumption | (exact (hc_far (by omega)).trans (by assumption))) (by omega) (by first | rfl | assumption) (by first | (exact hc_o (by first | assumption | (exact ⟨by decide, rfl⟩))) | assumption | (exact (hc_far (by omega)).trans (by assumption))) (by omega) ?_
            refine cn_room hn h1.2.2.2.2.2.2.1 (fun hr => ?_) (fun hr => ?_)
            · have hr : σ.H.1 < 8 := hr
              refine b_49_111 _ _ _ ?_ ?_
              · intro z111
                first | (exact absurd z111 (by decide)) | (exact absurd (by decide) z111) | (exact absurd rfl z111) | (exact absurd z111 (of_nn (by omega))) | (exact absurd (of_np (by omega)) z111) | omega
              · intro z111
                refine b_49_114 _ _ _ ?_
                refine b_49_119 _ _ _ (by first | (exact hc_o (by first | assumption | (exact ⟨by decide, rfl⟩))) | assumption | (exact (hc_far (by omega)).trans (by assumption))) (by omega) ?_
                refine cr_at hn hG.2.1 (fun _ => ?_) (fun e => ?_)
                · have hi8' : ¬ ms_hi g L σ = 8 := by omega
                  have hsp : ms_hc g L σ = ms_eb (ms_pa g L (σ.nx g L)) (fun _ σ2 => .ok (ms_hi g L σ, σ2.sH (ms_hh g L σ))) := by unfold ms_hc; rw [if_pos hk', if_pos hk2, if_neg hi8']
                  refine b_49_122 _ _ _ (by first | (exact hc_o (by first | assumption | (exact ⟨by decide, rfl⟩))) | assumption | (exact (hc_far (by omega)).trans (by assumption))) (by omega) (by first | rfl | assumption) (by first | (exact hc_o (by first | assumption | (exact ⟨by decide, rfl⟩))) | assumption | (exact (hc_far (by omega)).trans (by assumption))) (by omega) ?_
                  refine cr_pa (d := d) hG h1 (fun i2 σ2 hok hi2 hn2 hi3 a2 h3 g3 => ?_) (fun w hw => ?_)
                  · refine b_49_130 _ _ _ ?_ ?_
                    · intro z130
                      have ehh : ms_hh g L σ = (σ.H.1 + 1, va_up σ.H.2 σ.H.1 (σ.t.a, σ.t.b - σ.t.a, ms_hp g L σ)) := by unfold ms_hh; rw [if_pos hih]
                      have hHH : σ2.H = σ.H := (ms_pa_H hok).trans rfl
                      have hs2 : ms_hc g L σ = .ok (ms_hi g L σ, σ2.sH (ms_hh g L σ)) := by rw [hsp, hok]; rfl
                      rw [ehh] at hs2
                      have hpp := ms_pa_P hok
                      have hr' : σ2.H.1 < 8 := by rw [hHH]; first | exact hr | omega
                      have q7 := h3.2.2.2.2.2.2.1
                      have hst := h3.addH (x := σ.t.a) (m := σ.t.b - σ.t.a) (i := ms_hp g L σ) hr' (by omega) hpp
                      rw [← hHH] at hs2
                      have hi4 : i2 = ms_hp g L σ := hi3
                      refine b_49_141 _ _ _ (by first | (exact hc_o (by first | assumption | (exact ⟨by decide, rfl⟩))) | assumption | (exact (hc_far (by omega)).trans (by assumption))) (by omega) (by first | rfl | assumption) (by first | (exact hc_o (by first | assumption | (exact ⟨by decide, rfl⟩))) | assumption | (exact (hc_far (by omega)).trans (by assumption))) (by omega) ?_
                      refine cn_addm (a := a2) hn q7 hr' ?_
                      refine b_49_152 _ _ _ ?_
                      have hg5 := g1.trans (g3.trans (cn_go (p := 24) (c := σ2.H.1) (x := Int32.ofNat σ.t.a) (m := Int32.ofNat (σ.t.b - σ.t.a)) (ow := Int32.ofNat i2) (σ' := σ2.sH (σ2.H.1 + 1, va_up σ2.H.2 σ2.H.1 (σ.t.a, σ.t.b - σ.t.a, ms_hp g L σ))) rfl rfl rfl rfl))
                      rw [hi4] at hg5 ⊢
                      have hiv : σ2.H.1 = ms_hi g L σ := by rw [hHH, hih]
                      rw [show Int32.ofNat σ2.H.1 = Int32.ofNat (ms_hi g L σ) by rw [hiv]]
                      exact ok _ _ hs2 (by omega) hn2 _ hst hg5
                    · intro z130
                      first | (exact absurd z130 (by decide)) | (exact absurd (by decide) z130) | (exact absurd rfl z130) | (exact absurd z130 (of_nn (by omega))) | (exact absurd (of_np (by omega)) z130) | omega
                  · exact cEr.kc (by decide +kernel) (by omega) ((er w (by rw [hsp, hw]; rfl)).go g1.1)
                · exact absurd e (by decide)
            · have hr : σ.H.1 = 8 := hr
              refine b_49_111 _ _ _ ?_ ?_
              · intro z111
                refine b_49_118 _ _ _ ?_
                refine b_49_119 _ _ _ (by first | (exact hc_o (by first | assumption | (exact ⟨by decide, rfl⟩))) | assumption | (exact (hc_far (by omega)).trans (by assumption))) (by omega) ?_
                refine cr_at hn hG.2.1 (fun e => ?_) (fun _ => ?_)
                · exact absurd rfl e
                · refine hx_c (by decide +kernel) (by omega) ?_
                  exact (er σ.t.a (by unfold ms_hc; rw [if_pos hk', if_pos hk2, if_pos (hih.trans hr)])).at g1.1 rfl
              · intro z111
                first | (exact absurd z111 (by decide)) | (exact absurd (by decide) z111) | (exact absurd rfl z111) | (exact absurd z111 (of_nn (by omega))) | (exact absurd (of_np (by omega)) z111) | omega
      · have hpf : ms_hp g L σ = σ.P.1 := hf
        have how : ∀ i, i < σ.H.1 → (Int32.ofNat (σ.H.2 i).2.2 = -1 ↔ (σ.H.2 i).2.2 = ms_hp g L σ) := fun i hi => ⟨fun e => absurd e (of_m1 (by have := rO i hi; omega)), fun e => absurd e (by have := rO i hi; omega)⟩
        refine b_49_93 _ _ _ (by first | (exact hc_o (by first | assumption | (exact ⟨by decide, rfl⟩))) | assumption | (exact (hc_far (by omega)).trans (by assumption))) (by omega) ?_
        refine cn_find (g := g) (L := L) hn h1.2.2.2.2.2.2.1 h1.1.2.1 h1.1.2.2.1 (by omega) (fun i hi hq hno => ?_) (fun hno => ?_)
        · have hih : ms_hi g L σ = i := ms_fh_at σ.H.1 0 (Nat.zero_le _) (by have : i < σ.H.1 := hi; omega) ⟨(how i hi).mp hq.1, hq.2.1, (show mr_sm g (σ.H.2 i).1 σ.t.a (σ.H.2 i).2.1 by rw [show (σ.H.2 i).2.1 = _ from hq.2.1]; exact hq.2.2)⟩ (fun e _ h2 h3 => hno e h2 ⟨(how e (by have : i < σ.H.1 := hi; omega)).mpr h3.1, h3.2.1, by rw [← h3.2.1]; exact h3.2.2⟩)
          have hi8 : i < σ.H.1 := hi
          refine b_49_96 _ _ _ ?_ ?_
          · intro z96
            refine b_49_114 _ _ _ ?_
            refine b_49_119 _ _ _ (by first | (exact hc_o (by first | assumption | (exact ⟨by decide, rfl⟩))) | assumption | (exact (hc_far (by omega)).trans (by assumption))) (by omega) ?_
            refine cr_at hn hG.2.1 (fun _ => ?_) (fun e => ?_)
            · have hi8' : ¬ ms_hi g L σ = 8 := by omega
              have hsp : ms_hc g L σ = ms_eb (ms_pa g L (σ.nx g L)) (fun _ σ2 => .ok (ms_hi g L σ, σ2.sH (ms_hh g L σ))) := by unfold ms_hc; rw [if_pos hk', if_pos hk2, if_neg hi8']
              refine b_49_122 _ _ _ (by first | (exact hc_o (by first | assumption | (exact ⟨by decide, rfl⟩))) | assumption | (exact (hc_far (by omega)).trans (by assumption))) (by omega) (by first | rfl | assumption) (by first | (exact hc_o (by first | assumption | (exact ⟨by decide, rfl⟩))) | assumption | (exact (hc_far (by omega)).trans (by assumption))) (by omega) ?_
              refine cr_pa (d := d) hG h1 (fun i2 σ2 hok hi2 hn2 hi3 a2 h3 g3 => ?_) (fun w hw => ?_)
              · refine b_49_130 _ _ _ ?_ ?_
                · intro z130
                  exact absurd z130 (of_m1 (by omega))
                · intro z130
                  refine b_49_137 _ _ _ ?_
                  refine b_49_152 _ _ _ ?_
                  have ehh : ms_hh g L σ = σ.H := by unfold ms_hh; rw [if_neg (by omega)]
                  have hHH : σ2.H = σ.H := (ms_pa_H hok).trans rfl
                  have hs2 : ms_hc g L σ = .ok (ms_hi g L σ, σ2.sH (ms_hh g L σ)) := by rw [hsp, hok]; rfl
                  rw [ehh, ← hHH] at hs2
                  rw [← hih]
                  exact ok _ _ hs2 (by omega) hn2 a2 h3 (g1.trans g3)
              · exact cEr.kc (by decide +kernel) (by omega) ((er w (by rw [hsp, hw]; rfl)).go g1.1)
            · exact absurd e (by decide)
          · intro z96
            exact absurd (Classical.not_not.mp z96) (of_m1 (by omega))
        · have hih : ms_hi g L σ = σ.H.1 := (ms_fh_no σ.H.1 0 (fun e _ h2 h3 => hno e (by show e < σ.H.1; omega) ⟨(how e (by omega)).mpr h3.1, h3.2.1, by rw [← h3.2.1]; exact h3.2.2⟩)).trans (Nat.zero_add _)
          refine b_49_96 _ _ _ ?_ ?_
          · intro z96
            first | (exact absurd z96 (by decide)) | (exact absurd (by decide) z96) | (exact absurd rfl z96) | (exact absurd z96 (of_nn (by omega))) | (exact absurd (of_np (by omega)) z96) | omega
          · intro z96
            refine b_49_104 _ _ _ (by first | (exact hc_o (by first | assumption | (exact ⟨by decide, rfl⟩))) | assumption | (exact (hc_far (by omega)).trans (by assumption))) (by omega) (by first | rfl | assumption) (by first | (exact hc_o (by first | assumption | (exact ⟨by decide, rfl⟩))) | assumption | (exact (hc_far (by omega)).trans (by assumption))) (by omega) ?_
            refine cn_room hn h1.2.2.2.2.2.2.1 (fun hr => ?_) (fun hr => ?_)
            · have hr : σ.H.1 < 8 := hr
              refine b_49_111 _ _ _ ?_ ?_
              · intro z111
                first | (exact absurd z111 (by decide)) | (exact absurd (by decide) z111) | (exact absurd rfl z111) | (exact absurd z111 (of_nn (by omega))) | (exact absurd (of_np (by omega)) z111) | omega
              · intro z111
                refine b_49_114 _ _ _ ?_
                refine b_49_119 _ _ _ (by first | (exact hc_o (by first | assumption | (exact ⟨by decide, rfl⟩))) | assumption | (exact (hc_far (by omega)).trans (by assumption))) (by omega) ?_
                refine cr_at hn hG.2.1 (fun _ => ?_) (fun e => ?_)
                · have hi8' : ¬ ms_hi g L σ = 8 := by omega
                  have hsp : ms_hc g L σ = ms_eb (ms_pa g L (σ.nx g L)) (fun _ σ2 => .ok (ms_hi g L σ, σ2.sH (ms_hh g L σ))) := by unfold ms_hc; rw [if_pos hk', if_pos hk2, if_neg hi8']
                  refine b_49_122 _ _ _ (by first | (exact hc_o (by first | assumption | (exact ⟨by decide, rfl⟩))) | assumption | (exact (hc_far (by omega)).trans (by assumption))) (by omega) (by first | rfl | assumption) (by first | (exact hc_o (by first | assumption | (exact ⟨by decide, rfl⟩))) | assumption | (exact (hc_far (by omega)).trans (by assumption))) (by omega) ?_
                  refine cr_pa (d := d) hG h1 (fun i2 σ2 hok hi2 hn2 hi3 a2 h3 g3 => ?_) (fun w hw => ?_)
                  · refine b_49_130 _ _ _ ?_ ?_
                    · intro z130
                      have ehh : ms_hh g L σ = (σ.H.1 + 1, va_up σ.H.2 σ.H.1 (σ.t.a, σ.t.b - σ.t.a, ms_hp g L σ)) := by unfold ms_hh; rw [if_pos hih]
                      have hHH : σ2.H = σ.H := (ms_pa_H hok).trans rfl
                      have hs2 : ms_hc g L σ = .ok (ms_hi g L σ, σ2.sH (ms_hh g L σ)) := by rw [hsp, hok]; rfl
                      rw [ehh] at hs2
                      have hpp := ms_pa_P hok
                      have hr' : σ2.H.1 < 8 := by rw [hHH]; first | exact hr | omega
                      have q7 := h3.2.2.2.2.2.2.1
                      have hst := h3.addH (x := σ.t.a) (m := σ.t.b - σ.t.a) (i := ms_hp g L σ) hr' (by omega) hpp
                      rw [← hHH] at hs2
                      have hi4 : i2 = ms_hp g L σ := hi3
                      refine b_49_141 _ _ _ (by first | (exact hc_o (by first | assumption | (exact ⟨by decide, rfl⟩))) | assumption | (exact (hc_far (by omega)).trans (by assumption))) (by omega) (by first | rfl | assumption) (by first | (exact hc_o (by first | assumption | (exact ⟨by decide, rfl⟩))) | assumption | (exact (hc_far (by omega)).trans (by assumption))) (by omega) ?_
                      refine cn_addm (a := a2) hn q7 hr' ?_
                      refine b_49_152 _ _ _ ?_
                      have hg5 := g1.trans (g3.trans (cn_go (p := 24) (c := σ2.H.1) (x := Int32.ofNat σ.t.a) (m := Int32.ofNat (σ.t.b - σ.t.a)) (ow := Int32.ofNat i2) (σ' := σ2.sH (σ2.H.1 + 1, va_up σ2.H.2 σ2.H.1 (σ.t.a, σ.t.b - σ.t.a, ms_hp g L σ))) rfl rfl rfl rfl))
                      rw [hi4] at hg5 ⊢
                      have hiv : σ2.H.1 = ms_hi g L σ := by rw [hHH, hih]
                      rw [show Int32.ofNat σ2.H.1 = Int32.ofNat (ms_hi g L σ) by rw [hiv]]
                      exact ok _ _ hs2 (by omega) hn2 _ hst hg5
                    · intro z130
                      first | (exact absurd z130 (by decide)) | (exact absurd (by decide) z130) | (exact absurd rfl z130) | (exact absurd z130 (of_nn (by omega))) | (exact absurd (of_np (by omega)) z130) | omega
                  · exact cEr.kc (by decide +kernel) (by omega) ((er w (by rw [hsp, hw]; rfl)).go g1.1)
                · exact absurd e (by decide)
            · have hr : σ.H.1 = 8 := hr
              refine b_49_111 _ _ _ ?_ ?_
              · intro z111
                refine b_49_118 _ _ _ ?_
                refine b_49_119 _ _ _ (by first | (exact hc_o (by first | assumption | (exact ⟨by decide, rfl⟩))) | assumption | (exact (hc_far (by omega)).trans (by assumption))) (by omega) ?_
                refine cr_at hn hG.2.1 (fun e => ?_) (fun _ => ?_)
                · exact absurd rfl e
                · refine hx_c (by decide +kernel) (by omega) ?_
                  exact (er σ.t.a (by unfold ms_hc; rw [if_pos hk', if_pos hk2, if_pos (hih.trans hr)])).at g1.1 rfl
              · intro z111
                first | (exact absurd z111 (by decide)) | (exact absurd (by decide) z111) | (exact absurd rfl z111) | (exact absurd z111 (of_nn (by omega))) | (exact absurd (of_np (by omega)) z111) | omega
end
