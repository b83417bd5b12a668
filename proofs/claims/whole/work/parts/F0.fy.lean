/-! the second object: timed, outside -/
theorem mo_s0 : ∀ o : Fin 33, mo_sh o.1 = 0 → (o.1 = 10 ∨ o.1 = 11 ∨ o.1 = 17 ∨ o.1 = 18 ∨ o.1 = 22 ∨ o.1 = 23 ∨ o.1 = 27 ∨ o.1 = 19 ∨ o.1 = 20) := by decide +kernel
theorem mo_s1 : ∀ o : Fin 33, mo_sh o.1 = 1 → (o.1 = 12 ∨ o.1 = 26) := by decide +kernel
theorem mo_s2 : ∀ o : Fin 33, mo_sh o.1 = 2 → (o.1 = 13 ∨ o.1 = 14 ∨ o.1 = 15 ∨ o.1 = 16 ∨ o.1 = 24 ∨ o.1 = 25 ∨ o.1 = 28 ∨ o.1 = 29 ∨ o.1 = 30 ∨ o.1 = 31 ∨ o.1 = 32) := by decide +kernel
theorem mo_s3 : ∀ o : Fin 33, mo_sh o.1 = 3 → o.1 = 21 := by decide +kernel
section
variable {d n sl N BN k m e : Nat} {b : mg_A} {f0 : Nat → mi_C} {tb : Nat → ms_N} {bd : Nat → Int64 × Int64} {Q : (Option Value ⊕ Nat) → mi_H → Prop}
theorem mo_bad_v (h : ¬ (tb m).1 = 19) (h' : ¬ (tb m).1 = 20) (h8 : ¬ (tb m).1 = 8) : ¬ mo_bad tb bd m := fun hb => hb.elim h (fun hb => hb.elim h' (fun hb => h8 hb.1))
def gTi (n sl : Nat) (f0 : Nat → mi_C) (b : mg_A) (N : Nat) (tb : Nat → ms_N) (bd : Nat → Int64 × Int64) (k : Nat) : Prop := ∀ (m e d : Nat) (Q : (Option Value ⊕ Nat) → mi_H → Prop), mo_v tb k m e → e ≤ N → k ≤ d → (mo_any tb bd m e → Q (.inl (some (.int 1))) (n, sl, hd b f0)) → (¬ mo_any tb bd m e → Q (.inl (some (.int 0))) (n, sl, hd b f0)) → mi_W d 196 0 (mi_en 2 [.ref 505, .int (Int32.ofNat m)]) [] (n, sl, hd b f0) Q
theorem gt_10 (hn : 575 ≤ n) (hT : gTb b N BN tb bd) (IT : gTi n sl f0 b N tb bd k) (hd' : k ≤ d) (hm : m < N) (he : e ≤ N) (ho : (tb m).1 = 10) (hem : e = m + 1) (K1 : mo_any tb bd m e → Q (.inl (some (.int 1))) (n, sl, hd b f0)) (K0 : ¬ mo_any tb bd m e → Q (.inl (some (.int 0))) (n, sl, hd b f0)) : mi_W (d + 1) 196 0 (mi_en 2 [.ref 505, .int (Int32.ofNat m)]) [] (n, sl, hd b f0) Q := by
  have hN8 := hT.1.1
  have hrow := hT.1.2.1 m hm
  have hix := ix_of (w := m) (m := 800) (by omega) (by omega)
  have h0 : b.I 509 m = 10 := by rw [hrow.1, ho]; rfl
  have hnb : ¬ mo_bad tb bd m := mo_bad_v (by omega) (by omega) (by omega)
  subst hem
  rw [mo_any_1] at K1 K0
  refine b_196_0 (t12 := 194) _ _ _ _ _ _ (by first | (exact hd_9) | assumption) (by omega) (by exact mL_get (by decide)) (by first | (exact hd_I (by omega) rfl) | assumption) (Or.inl (by omega)) (by first | assumption | (exact ix_of (by omega) (by omega)) | (exact ⟨by decide, rfl, by decide⟩)) (by rw [h0]; decide +kernel) ?_
  refine b_196_194 _ _ _ ?_
  exact K0 hnb
theorem gt_11 (hn : 575 ≤ n) (hT : gTb b N BN tb bd) (IT : gTi n sl f0 b N tb bd k) (hd' : k ≤ d) (hm : m < N) (he : e ≤ N) (ho : (tb m).1 = 11) (hem : e = m + 1) (K1 : mo_any tb bd m e → Q (.inl (some (.int 1))) (n, sl, hd b f0)) (K0 : ¬ mo_any tb bd m e → Q (.inl (some (.int 0))) (n, sl, hd b f0)) : mi_W (d + 1) 196 0 (mi_en 2 [.ref 505, .int (Int32.ofNat m)]) [] (n, sl, hd b f0) Q := by
  have hN8 := hT.1.1
  have hrow := hT.1.2.1 m hm
  have hix := ix_of (w := m) (m := 800) (by omega) (by omega)
  have h0 : b.I 509 m = 11 := by rw [hrow.1, ho]; rfl
  have hnb : ¬ mo_bad tb bd m := mo_bad_v (by omega) (by omega) (by omega)
  subst hem
  rw [mo_any_1] at K1 K0
  refine b_196_0 (t12 := 194) _ _ _ _ _ _ (by first | (exact hd_9) | assumption) (by omega) (by exact mL_get (by decide)) (by first | (exact hd_I (by omega) rfl) | assumption) (Or.inl (by omega)) (by first | assumption | (exact ix_of (by omega) (by omega)) | (exact ⟨by decide, rfl, by decide⟩)) (by rw [h0]; decide +kernel) ?_
  refine b_196_194 _ _ _ ?_
  exact K0 hnb
theorem gt_17 (hn : 575 ≤ n) (hT : gTb b N BN tb bd) (IT : gTi n sl f0 b N tb bd k) (hd' : k ≤ d) (hm : m < N) (he : e ≤ N) (ho : (tb m).1 = 17) (hem : e = m + 1) (K1 : mo_any tb bd m e → Q (.inl (some (.int 1))) (n, sl, hd b f0)) (K0 : ¬ mo_any tb bd m e → Q (.inl (some (.int 0))) (n, sl, hd b f0)) : mi_W (d + 1) 196 0 (mi_en 2 [.ref 505, .int (Int32.ofNat m)]) [] (n, sl, hd b f0) Q := by
  have hN8 := hT.1.1
  have hrow := hT.1.2.1 m hm
  have hix := ix_of (w := m) (m := 800) (by omega) (by omega)
  have h0 : b.I 509 m = 17 := by rw [hrow.1, ho]; rfl
  have hnb : ¬ mo_bad tb bd m := mo_bad_v (by omega) (by omega) (by omega)
  subst hem
  rw [mo_any_1] at K1 K0
  refine b_196_0 (t12 := 194) _ _ _ _ _ _ (by first | (exact hd_9) | assumption) (by omega) (by exact mL_get (by decide)) (by first | (exact hd_I (by omega) rfl) | assumption) (Or.inl (by omega)) (by first | assumption | (exact ix_of (by omega) (by omega)) | (exact ⟨by decide, rfl, by decide⟩)) (by rw [h0]; decide +kernel) ?_
  refine b_196_194 _ _ _ ?_
  exact K0 hnb
theorem gt_18 (hn : 575 ≤ n) (hT : gTb b N BN tb bd) (IT : gTi n sl f0 b N tb bd k) (hd' : k ≤ d) (hm : m < N) (he : e ≤ N) (ho : (tb m).1 = 18) (hem : e = m + 1) (K1 : mo_any tb bd m e → Q (.inl (some (.int 1))) (n, sl, hd b f0)) (K0 : ¬ mo_any tb bd m e → Q (.inl (some (.int 0))) (n, sl, hd b f0)) : mi_W (d + 1) 196 0 (mi_en 2 [.ref 505, .int (Int32.ofNat m)]) [] (n, sl, hd b f0) Q := by
  have hN8 := hT.1.1
  have hrow := hT.1.2.1 m hm
  have hix := ix_of (w := m) (m := 800) (by omega) (by omega)
  have h0 : b.I 509 m = 18 := by rw [hrow.1, ho]; rfl
  have hnb : ¬ mo_bad tb bd m := mo_bad_v (by omega) (by omega) (by omega)
  subst hem
  rw [mo_any_1] at K1 K0
  refine b_196_0 (t12 := 194) _ _ _ _ _ _ (by first | (exact hd_9) | assumption) (by omega) (by exact mL_get (by decide)) (by first | (exact hd_I (by omega) rfl) | assumption) (Or.inl (by omega)) (by first | assumption | (exact ix_of (by omega) (by omega)) | (exact ⟨by decide, rfl, by decide⟩)) (by rw [h0]; decide +kernel) ?_
  refine b_196_194 _ _ _ ?_
  exact K0 hnb
theorem gt_22 (hn : 575 ≤ n) (hT : gTb b N BN tb bd) (IT : gTi n sl f0 b N tb bd k) (hd' : k ≤ d) (hm : m < N) (he : e ≤ N) (ho : (tb m).1 = 22) (hem : e = m + 1) (K1 : mo_any tb bd m e → Q (.inl (some (.int 1))) (n, sl, hd b f0)) (K0 : ¬ mo_any tb bd m e → Q (.inl (some (.int 0))) (n, sl, hd b f0)) : mi_W (d + 1) 196 0 (mi_en 2 [.ref 505, .int (Int32.ofNat m)]) [] (n, sl, hd b f0) Q := by
  have hN8 := hT.1.1
  have hrow := hT.1.2.1 m hm
  have hix := ix_of (w := m) (m := 800) (by omega) (by omega)
  have h0 : b.I 509 m = 22 := by rw [hrow.1, ho]; rfl
  have hnb : ¬ mo_bad tb bd m := mo_bad_v (by omega) (by omega) (by omega)
  subst hem
  rw [mo_any_1] at K1 K0
  refine b_196_0 (t12 := 194) _ _ _ _ _ _ (by first | (exact hd_9) | assumption) (by omega) (by exact mL_get (by decide)) (by first | (exact hd_I (by omega) rfl) | assumption) (Or.inl (by omega)) (by first | assumption | (exact ix_of (by omega) (by omega)) | (exact ⟨by decide, rfl, by decide⟩)) (by rw [h0]; decide +kernel) ?_
  refine b_196_194 _ _ _ ?_
  exact K0 hnb
theorem gt_23 (hn : 575 ≤ n) (hT : gTb b N BN tb bd) (IT : gTi n sl f0 b N tb bd k) (hd' : k ≤ d) (hm : m < N) (he : e ≤ N) (ho : (tb m).1 = 23) (hem : e = m + 1) (K1 : mo_any tb bd m e → Q (.inl (some (.int 1))) (n, sl, hd b f0)) (K0 : ¬ mo_any tb bd m e → Q (.inl (some (.int 0))) (n, sl, hd b f0)) : mi_W (d + 1) 196 0 (mi_en 2 [.ref 505, .int (Int32.ofNat m)]) [] (n, sl, hd b f0) Q := by
  have hN8 := hT.1.1
  have hrow := hT.1.2.1 m hm
  have hix := ix_of (w := m) (m := 800) (by omega) (by omega)
  have h0 : b.I 509 m = 23 := by rw [hrow.1, ho]; rfl
  have hnb : ¬ mo_bad tb bd m := mo_bad_v (by omega) (by omega) (by omega)
  subst hem
  rw [mo_any_1] at K1 K0
  refine b_196_0 (t12 := 194) _ _ _ _ _ _ (by first | (exact hd_9) | assumption) (by omega) (by exact mL_get (by decide)) (by first | (exact hd_I (by omega) rfl) | assumption) (Or.inl (by omega)) (by first | assumption | (exact ix_of (by omega) (by omega)) | (exact ⟨by decide, rfl, by decide⟩)) (by rw [h0]; decide +kernel) ?_
  refine b_196_194 _ _ _ ?_
  exact K0 hnb
theorem gt_27 (hn : 575 ≤ n) (hT : gTb b N BN tb bd) (IT : gTi n sl f0 b N tb bd k) (hd' : k ≤ d) (hm : m < N) (he : e ≤ N) (ho : (tb m).1 = 27) (hem : e = m + 1) (K1 : mo_any tb bd m e → Q (.inl (some (.int 1))) (n, sl, hd b f0)) (K0 : ¬ mo_any tb bd m e → Q (.inl (some (.int 0))) (n, sl, hd b f0)) : mi_W (d + 1) 196 0 (mi_en 2 [.ref 505, .int (Int32.ofNat m)]) [] (n, sl, hd b f0) Q := by
  have hN8 := hT.1.1
  have hrow := hT.1.2.1 m hm
  have hix := ix_of (w := m) (m := 800) (by omega) (by omega)
  have h0 : b.I 509 m = 27 := by rw [hrow.1, ho]; rfl
  have hnb : ¬ mo_bad tb bd m := mo_bad_v (by omega) (by omega) (by omega)
  subst hem
  rw [mo_any_1] at K1 K0
  refine b_196_0 (t12 := 194) _ _ _ _ _ _ (by first | (exact hd_9) | assumption) (by omega) (by exact mL_get (by decide)) (by first | (exact hd_I (by omega) rfl) | assumption) (Or.inl (by omega)) (by first | assumption | (exact ix_of (by omega) (by omega)) | (exact ⟨by decide, rfl, by decide⟩)) (by rw [h0]; decide +kernel) ?_
  refine b_196_194 _ _ _ ?_
  exact K0 hnb
theorem gt_19 (hn : 575 ≤ n) (hT : gTb b N BN tb bd) (IT : gTi n sl f0 b N tb bd k) (hd' : k ≤ d) (hm : m < N) (he : e ≤ N) (ho : (tb m).1 = 19) (hem : e = m + 1) (K1 : mo_any tb bd m e → Q (.inl (some (.int 1))) (n, sl, hd b f0)) (K0 : ¬ mo_any tb bd m e → Q (.inl (some (.int 0))) (n, sl, hd b f0)) : mi_W (d + 1) 196 0 (mi_en 2 [.ref 505, .int (Int32.ofNat m)]) [] (n, sl, hd b f0) Q := by
  have hN8 := hT.1.1
  have hrow := hT.1.2.1 m hm
  have hix := ix_of (w := m) (m := 800) (by omega) (by omega)
  have h0 : b.I 509 m = 19 := by rw [hrow.1, ho]; rfl
  subst hem
  rw [mo_any_1] at K1 K0
  refine b_196_0 (t12 := 104) _ _ _ _ _ _ (by first | (exact hd_9) | assumption) (by omega) (by exact mL_get (by decide)) (by first | (exact hd_I (by omega) rfl) | assumption) (Or.inl (by omega)) (by first | assumption | (exact ix_of (by omega) (by omega)) | (exact ⟨by decide, rfl, by decide⟩)) (by rw [h0]; decide +kernel) ?_
  refine b_196_104 _ _ _ ?_
  exact K1 (Or.inl ho)
theorem gt_20 (hn : 575 ≤ n) (hT : gTb b N BN tb bd) (IT : gTi n sl f0 b N tb bd k) (hd' : k ≤ d) (hm : m < N) (he : e ≤ N) (ho : (tb m).1 = 20) (hem : e = m + 1) (K1 : mo_any tb bd m e → Q (.inl (some (.int 1))) (n, sl, hd b f0)) (K0 : ¬ mo_any tb bd m e → Q (.inl (some (.int 0))) (n, sl, hd b f0)) : mi_W (d + 1) 196 0 (mi_en 2 [.ref 505, .int (Int32.ofNat m)]) [] (n, sl, hd b f0) Q := by
  have hN8 := hT.1.1
  have hrow := hT.1.2.1 m hm
  have hix := ix_of (w := m) (m := 800) (by omega) (by omega)
  have h0 : b.I 509 m = 20 := by rw [hrow.1, ho]; rfl
  subst hem
  rw [mo_any_1] at K1 K0
  refine b_196_0 (t12 := 104) _ _ _ _ _ _ (by first | (exact hd_9) | assumption) (by omega) (by exact mL_get (by decide)) (by first | (exact hd_I (by omega) rfl) | assumption) (Or.inl (by omega)) (by first | assumption | (exact ix_of (by omega) (by omega)) | (exact ⟨by decide, rfl, by decide⟩)) (by rw [h0]; decide +kernel) ?_
  refine b_196_104 _ _ _ ?_
  exact K1 (Or.inr (Or.inl ho))
theorem gt_12 (hn : 575 ≤ n) (hT : gTb b N BN tb bd) (IT : gTi n sl f0 b N tb bd k) (hd' : k ≤ d) (hm : m < N) (he : e ≤ N) (ho : (tb m).1 = 12) (hx : (tb m).2.2.2.2.2.1 = m + 1) (h1 : mo_v tb k (m + 1) e) (K1 : mo_any tb bd m e → Q (.inl (some (.int 1))) (n, sl, hd b f0)) (K0 : ¬ mo_any tb bd m e → Q (.inl (some (.int 0))) (n, sl, hd b f0)) : mi_W (d + 1) 196 0 (mi_en 2 [.ref 505, .int (Int32.ofNat m)]) [] (n, sl, hd b f0) Q := by
  have hN8 := hT.1.1
  have hrow := hT.1.2.1 m hm
  have hix := ix_of (w := m) (m := 800) (by omega) (by omega)
  have h0 : b.I 509 m = 12 := by rw [hrow.1, ho]; rfl
  have hnb : ¬ mo_bad tb bd m := mo_bad_v (by omega) (by omega) (by omega)
  have l1 := mo_v_lt _ _ _ h1
  have hj := mo_any_j (tb := tb) (bd := bd) (a := m) (b := m + 1) (c := e) (by omega) (by omega)
  rw [mo_any_1] at hj
  have w6 : b.I 510 m = Int32.ofNat (m + 1) := by rw [← hx]; exact hrow.2.2.2.2.2.2.1 (by rw [ho]; decide)
  refine b_196_0 (t12 := 106) _ _ _ _ _ _ (by first | (exact hd_9) | assumption) (by omega) (by exact mL_get (by decide)) (by first | (exact hd_I (by omega) rfl) | assumption) (Or.inl (by omega)) (by first | assumption | (exact ix_of (by omega) (by omega)) | (exact ⟨by decide, rfl, by decide⟩)) (by rw [h0]; decide +kernel) ?_
  refine b_196_106 _ _ _ _ _ _ (by first | (exact hd_9) | assumption) (by omega) (by exact mL_get (by decide)) (by first | (exact hd_I (by omega) rfl) | assumption) (Or.inl (by omega)) (by first | assumption | (exact ix_of (by omega) (by omega)) | (exact ⟨by decide, rfl, by decide⟩)) (by first | (exact hd_9) | assumption) (by omega) ?_
  rw [w6]
  refine IT (m + 1) e _ _ h1 he hd' (fun h => ?_) (fun h => ?_)
  · refine b_196_116 _ _ _ (by first | assumption | (exact mL_get (by decide)) | (rw [mL_len]; decide) | (simp only [mL_set]; exact mL_get (by decide)) | (simp only [mL_set, mL_len]; decide) | (exact va_eq) | (exact (va_ne (by omega)).trans (by assumption)) | (exact (va_ne (by omega)).trans va_eq) | (exact (va_ne (by omega)).trans ((va_ne (by omega)).trans (by assumption))) | (exact (va_ne (by omega)).trans ((va_ne (by omega)).trans ((va_ne (by omega)).trans (by assumption)))) | rfl | (exact Or.inl rfl) | (exact Or.inr rfl) | omega | (exact Nat.le_of_ble_eq_true rfl) | decide | (exact ⟨by decide, rfl, by decide⟩)) ?_
    exact K1 (hj.mpr (Or.inr h))
  · refine b_196_116 _ _ _ (by first | assumption | (exact mL_get (by decide)) | (rw [mL_len]; decide) | (simp only [mL_set]; exact mL_get (by decide)) | (simp only [mL_set, mL_len]; decide) | (exact va_eq) | (exact (va_ne (by omega)).trans (by assumption)) | (exact (va_ne (by omega)).trans va_eq) | (exact (va_ne (by omega)).trans ((va_ne (by omega)).trans (by assumption))) | (exact (va_ne (by omega)).trans ((va_ne (by omega)).trans ((va_ne (by omega)).trans (by assumption)))) | rfl | (exact Or.inl rfl) | (exact Or.inr rfl) | omega | (exact Nat.le_of_ble_eq_true rfl) | decide | (exact ⟨by decide, rfl, by decide⟩)) ?_
    exact K0 (fun h' => (hj.mp h').elim hnb h)
theorem gt_26 (hn : 575 ≤ n) (hT : gTb b N BN tb bd) (IT : gTi n sl f0 b N tb bd k) (hd' : k ≤ d) (hm : m < N) (he : e ≤ N) (ho : (tb m).1 = 26) (hx : (tb m).2.2.2.2.2.1 = m + 1) (h1 : mo_v tb k (m + 1) e) (K1 : mo_any tb bd m e → Q (.inl (some (.int 1))) (n, sl, hd b f0)) (K0 : ¬ mo_any tb bd m e → Q (.inl (some (.int 0))) (n, sl, hd b f0)) : mi_W (d + 1) 196 0 (mi_en 2 [.ref 505, .int (Int32.ofNat m)]) [] (n, sl, hd b f0) Q := by
  have hN8 := hT.1.1
  have hrow := hT.1.2.1 m hm
  have hix := ix_of (w := m) (m := 800) (by omega) (by omega)
  have h0 : b.I 509 m = 26 := by rw [hrow.1, ho]; rfl
  have hnb : ¬ mo_bad tb bd m := mo_bad_v (by omega) (by omega) (by omega)
  have l1 := mo_v_lt _ _ _ h1
  have hj := mo_any_j (tb := tb) (bd := bd) (a := m) (b := m + 1) (c := e) (by omega) (by omega)
  rw [mo_any_1] at hj
  have w6 : b.I 510 m = Int32.ofNat (m + 1) := by rw [← hx]; exact hrow.2.2.2.2.2.2.1 (by rw [ho]; decide)
  refine b_196_0 (t12 := 106) _ _ _ _ _ _ (by first | (exact hd_9) | assumption) (by omega) (by exact mL_get (by decide)) (by first | (exact hd_I (by omega) rfl) | assumption) (Or.inl (by omega)) (by first | assumption | (exact ix_of (by omega) (by omega)) | (exact ⟨by decide, rfl, by decide⟩)) (by rw [h0]; decide +kernel) ?_
  refine b_196_106 _ _ _ _ _ _ (by first | (exact hd_9) | assumption) (by omega) (by exact mL_get (by decide)) (by first | (exact hd_I (by omega) rfl) | assumption) (Or.inl (by omega)) (by first | assumption | (exact ix_of (by omega) (by omega)) | (exact ⟨by decide, rfl, by decide⟩)) (by first | (exact hd_9) | assumption) (by omega) ?_
  rw [w6]
  refine IT (m + 1) e _ _ h1 he hd' (fun h => ?_) (fun h => ?_)
  · refine b_196_116 _ _ _ (by first | assumption | (exact mL_get (by decide)) | (rw [mL_len]; decide) | (simp only [mL_set]; exact mL_get (by decide)) | (simp only [mL_set, mL_len]; decide) | (exact va_eq) | (exact (va_ne (by omega)).trans (by assumption)) | (exact (va_ne (by omega)).trans va_eq) | (exact (va_ne (by omega)).trans ((va_ne (by omega)).trans (by assumption))) | (exact (va_ne (by omega)).trans ((va_ne (by omega)).trans ((va_ne (by omega)).trans (by assumption)))) | rfl | (exact Or.inl rfl) | (exact Or.inr rfl) | omega | (exact Nat.le_of_ble_eq_true rfl) | decide | (exact ⟨by decide, rfl, by decide⟩)) ?_
    exact K1 (hj.mpr (Or.inr h))
  · refine b_196_116 _ _ _ (by first | assumption | (exact mL_get (by decide)) | (rw [mL_len]; decide) | (simp only [mL_set]; exact mL_get (by decide)) | (simp only [mL_set, mL_len]; decide) | (exact va_eq) | (exact (va_ne (by omega)).trans (by assumption)) | (exact (va_ne (by omega)).trans va_eq) | (exact (va_ne (by omega)).trans ((va_ne (by omega)).trans (by assumption))) | (exact (va_ne (by omega)).trans ((va_ne (by omega)).trans ((va_ne (by omega)).trans (by assumption)))) | rfl | (exact Or.inl rfl) | (exact Or.inr rfl) | omega | (exact Nat.le_of_ble_eq_true rfl) | decide | (exact ⟨by decide, rfl, by decide⟩)) ?_
    exact K0 (fun h' => (hj.mp h').elim hnb h)
theorem gt_13 (hn : 575 ≤ n) (hT : gTb b N BN tb bd) (IT : gTi n sl f0 b N tb bd k) (hd' : k ≤ d) (hm : m < N) (he : e ≤ N) (ho : (tb m).1 = 13) (hx : (tb m).2.2.2.2.2.1 = m + 1) (h1 : mo_v tb k (m + 1) (tb m).2.2.2.2.2.2.1) (h2 : mo_v tb k (tb m).2.2.2.2.2.2.1 e) (K1 : mo_any tb bd m e → Q (.inl (some (.int 1))) (n, sl, hd b f0)) (K0 : ¬ mo_any tb bd m e → Q (.inl (some (.int 0))) (n, sl, hd b f0)) : mi_W (d + 1) 196 0 (mi_en 2 [.ref 505, .int (Int32.ofNat m)]) [] (n, sl, hd b f0) Q := by
  have hN8 := hT.1.1
  have hrow := hT.1.2.1 m hm
  have hix := ix_of (w := m) (m := 800) (by omega) (by omega)
  have h0 : b.I 509 m = 13 := by rw [hrow.1, ho]; rfl
  have hnb : ¬ mo_bad tb bd m := mo_bad_v (by omega) (by omega) (by omega)
  have l1 := mo_v_lt _ _ _ h1
  have l2 := mo_v_lt _ _ _ h2
  have hj := mo_any_j (tb := tb) (bd := bd) (a := m) (b := m + 1) (c := e) (by omega) (by omega)
  rw [mo_any_1, mo_any_j (a := m + 1) (b := (tb m).2.2.2.2.2.2.1) (c := e) (by omega) (by omega)] at hj
  have w6 : b.I 510 m = Int32.ofNat (m + 1) := by rw [← hx]; exact hrow.2.2.2.2.2.2.1 (by rw [ho]; decide)
  have w10 : b.I 511 m = Int32.ofNat (tb m).2.2.2.2.2.2.1 := hrow.2.2.2.2.2.2.2.2.2.2.1 (by rw [ho]; decide)
  refine b_196_0 (t12 := 162) _ _ _ _ _ _ (by first | (exact hd_9) | assumption) (by omega) (by exact mL_get (by decide)) (by first | (exact hd_I (by omega) rfl) | assumption) (Or.inl (by omega)) (by first | assumption | (exact ix_of (by omega) (by omega)) | (exact ⟨by decide, rfl, by decide⟩)) (by rw [h0]; decide +kernel) ?_
  refine b_196_162 _ _ _ _ _ _ (by first | (exact hd_9) | assumption) (by omega) (by exact mL_get (by decide)) (by first | (exact hd_I (by omega) rfl) | assumption) (Or.inl (by omega)) (by first | assumption | (exact ix_of (by omega) (by omega)) | (exact ⟨by decide, rfl, by decide⟩)) (by first | (exact hd_9) | assumption) (by omega) ?_
  rw [w6]
  refine IT (m + 1) _ _ _ h1 (by omega) hd' (fun h => ?_) (fun h => ?_)
  · refine b_196_172 _ _ _ ?_ ?_
    · intro z172
      refine b_196_188 _ _ _ ?_
      refine b_196_193 _ _ _ (by first | assumption | (exact mL_get (by decide)) | (rw [mL_len]; decide) | (simp only [mL_set]; exact mL_get (by decide)) | (simp only [mL_set, mL_len]; decide) | (exact va_eq) | (exact (va_ne (by omega)).trans (by assumption)) | (exact (va_ne (by omega)).trans va_eq) | (exact (va_ne (by omega)).trans ((va_ne (by omega)).trans (by assumption))) | (exact (va_ne (by omega)).trans ((va_ne (by omega)).trans ((va_ne (by omega)).trans (by assumption)))) | rfl | (exact Or.inl rfl) | (exact Or.inr rfl) | omega | (exact Nat.le_of_ble_eq_true rfl) | decide | (exact ⟨by decide, rfl, by decide⟩)) ?_
      first | exact K1 (hj.mpr (Or.inr (Or.inl h))) | exact K1 (hj.mpr (Or.inr (Or.inr h')))
    · intro z172
      first | (exact absurd z172 (by decide)) | (exact absurd (by decide) z172) | (exact absurd rfl z172) | (exact absurd z172 (of_nn (by omega))) | (exact absurd (of_np (by omega)) z172) | omega
  · refine b_196_172 _ _ _ ?_ ?_
    · intro z172
      first | (exact absurd z172 (by decide)) | (exact absurd (by decide) z172) | (exact absurd rfl z172) | (exact absurd z172 (of_nn (by omega))) | (exact absurd (of_np (by omega)) z172) | omega
    · intro z172
      refine b_196_175 _ _ _ _ _ _ (by first | (exact hd_9) | assumption) (by omega) (by exact mL_get (by decide)) (by first | (exact hd_I (by omega) rfl) | assumption) (Or.inl (by omega)) (by first | assumption | (exact ix_of (by omega) (by omega)) | (exact ⟨by decide, rfl, by decide⟩)) (by first | (exact hd_9) | assumption) (by omega) ?_
      rw [w10]
      refine IT _ e _ _ h2 he hd' (fun h' => ?_) (fun h' => ?_)
      · refine b_196_185 _ _ _ ?_ ?_
        · intro z185
          first | (exact absurd z185 (by decide)) | (exact absurd (by decide) z185) | (exact absurd rfl z185) | (exact absurd z185 (of_nn (by omega))) | (exact absurd (of_np (by omega)) z185) | omega
        · intro z185
          refine b_196_188 _ _ _ ?_
          refine b_196_193 _ _ _ (by first | assumption | (exact mL_get (by decide)) | (rw [mL_len]; decide) | (simp only [mL_set]; exact mL_get (by decide)) | (simp only [mL_set, mL_len]; decide) | (exact va_eq) | (exact (va_ne (by omega)).trans (by assumption)) | (exact (va_ne (by omega)).trans va_eq) | (exact (va_ne (by omega)).trans ((va_ne (by omega)).trans (by assumption))) | (exact (va_ne (by omega)).trans ((va_ne (by omega)).trans ((va_ne (by omega)).trans (by assumption)))) | rfl | (exact Or.inl rfl) | (exact Or.inr rfl) | omega | (exact Nat.le_of_ble_eq_true rfl) | decide | (exact ⟨by decide, rfl, by decide⟩)) ?_
          first | exact K1 (hj.mpr (Or.inr (Or.inl h))) | exact K1 (hj.mpr (Or.inr (Or.inr h')))
      · refine b_196_185 _ _ _ ?_ ?_
        · intro z185
          refine b_196_192 _ _ _ ?_
          refine b_196_193 _ _ _ (by first | assumption | (exact mL_get (by decide)) | (rw [mL_len]; decide) | (simp only [mL_set]; exact mL_get (by decide)) | (simp only [mL_set, mL_len]; decide) | (exact va_eq) | (exact (va_ne (by omega)).trans (by assumption)) | (exact (va_ne (by omega)).trans va_eq) | (exact (va_ne (by omega)).trans ((va_ne (by omega)).trans (by assumption))) | (exact (va_ne (by omega)).trans ((va_ne (by omega)).trans ((va_ne (by omega)).trans (by assumption)))) | rfl | (exact Or.inl rfl) | (exact Or.inr rfl) | omega | (exact Nat.le_of_ble_eq_true rfl) | decide | (exact ⟨by decide, rfl, by decide⟩)) ?_
          exact K0 (fun g => (hj.mp g).elim hnb (fun g => g.elim h h'))
        · intro z185
          first | (exact absurd z185 (by decide)) | (exact absurd (by decide) z185) | (exact absurd rfl z185) | (exact absurd z185 (of_nn (by omega))) | (exact absurd (of_np (by omega)) z185) | omega
theorem gt_14 (hn : 575 ≤ n) (hT : gTb b N BN tb bd) (IT : gTi n sl f0 b N tb bd k) (hd' : k ≤ d) (hm : m < N) (he : e ≤ N) (ho : (tb m).1 = 14) (hx : (tb m).2.2.2.2.2.1 = m + 1) (h1 : mo_v tb k (m + 1) (tb m).2.2.2.2.2.2.1) (h2 : mo_v tb k (tb m).2.2.2.2.2.2.1 e) (K1 : mo_any tb bd m e → Q (.inl (some (.int 1))) (n, sl, hd b f0)) (K0 : ¬ mo_any tb bd m e → Q (.inl (some (.int 0))) (n, sl, hd b f0)) : mi_W (d + 1) 196 0 (mi_en 2 [.ref 505, .int (Int32.ofNat m)]) [] (n, sl, hd b f0) Q := by
  have hN8 := hT.1.1
  have hrow := hT.1.2.1 m hm
  have hix := ix_of (w := m) (m := 800) (by omega) (by omega)
  have h0 : b.I 509 m = 14 := by rw [hrow.1, ho]; rfl
  have hnb : ¬ mo_bad tb bd m := mo_bad_v (by omega) (by omega) (by omega)
  have l1 := mo_v_lt _ _ _ h1
  have l2 := mo_v_lt _ _ _ h2
  have hj := mo_any_j (tb := tb) (bd := bd) (a := m) (b := m + 1) (c := e) (by omega) (by omega)
  rw [mo_any_1, mo_any_j (a := m + 1) (b := (tb m).2.2.2.2.2.2.1) (c := e) (by omega) (by omega)] at hj
  have w6 : b.I 510 m = Int32.ofNat (m + 1) := by rw [← hx]; exact hrow.2.2.2.2.2.2.1 (by rw [ho]; decide)
  have w10 : b.I 511 m = Int32.ofNat (tb m).2.2.2.2.2.2.1 := hrow.2.2.2.2.2.2.2.2.2.2.1 (by rw [ho]; decide)
  refine b_196_0 (t12 := 162) _ _ _ _ _ _ (by first | (exact hd_9) | assumption) (by omega) (by exact mL_get (by decide)) (by first | (exact hd_I (by omega) rfl) | assumption) (Or.inl (by omega)) (by first | assumption | (exact ix_of (by omega) (by omega)) | (exact ⟨by decide, rfl, by decide⟩)) (by rw [h0]; decide +kernel) ?_
  refine b_196_162 _ _ _ _ _ _ (by first | (exact hd_9) | assumption) (by omega) (by exact mL_get (by decide)) (by first | (exact hd_I (by omega) rfl) | assumption) (Or.inl (by omega)) (by first | assumption | (exact ix_of (by omega) (by omega)) | (exact ⟨by decide, rfl, by decide⟩)) (by first | (exact hd_9) | assumption) (by omega) ?_
  rw [w6]
  refine IT (m + 1) _ _ _ h1 (by omega) hd' (fun h => ?_) (fun h => ?_)
  · refine b_196_172 _ _ _ ?_ ?_
    · intro z172
      refine b_196_188 _ _ _ ?_
      refine b_196_193 _ _ _ (by first | assumption | (exact mL_get (by decide)) | (rw [mL_len]; decide) | (simp only [mL_set]; exact mL_get (by decide)) | (simp only [mL_set, mL_len]; decide) | (exact va_eq) | (exact (va_ne (by omega)).trans (by assumption)) | (exact (va_ne (by omega)).trans va_eq) | (exact (va_ne (by omega)).trans ((va_ne (by omega)).trans (by assumption))) | (exact (va_ne (by omega)).trans ((va_ne (by omega)).trans ((va_ne (by omega)).trans (by assumption)))) | rfl | (exact Or.inl rfl) | (exact Or.inr rfl) | omega | (exact Nat.le_of_ble_eq_true rfl) | decide | (exact ⟨by decide, rfl, by decide⟩)) ?_
      first | exact K1 (hj.mpr (Or.inr (Or.inl h))) | exact K1 (hj.mpr (Or.inr (Or.inr h')))
    · intro z172
      first | (exact absurd z172 (by decide)) | (exact absurd (by decide) z172) | (exact absurd rfl z172) | (exact absurd z172 (of_nn (by omega))) | (exact absurd (of_np (by omega)) z172) | omega
  · refine b_196_172 _ _ _ ?_ ?_
    · intro z172
      first | (exact absurd z172 (by decide)) | (exact absurd (by decide) z172) | (exact absurd rfl z172) | (exact absurd z172 (of_nn (by omega))) | (exact absurd (of_np (by omega)) z172) | omega
    · intro z172
      refine b_196_175 _ _ _ _ _ _ (by first | (exact hd_9) | assumption) (by omega) (by exact mL_get (by decide)) (by first | (exact hd_I (by omega) rfl) | assumption) (Or.inl (by omega)) (by first | assumption | (exact ix_of (by omega) (by omega)) | (exact ⟨by decide, rfl, by decide⟩)) (by first | (exact hd_9) | assumption) (by omega) ?_
      rw [w10]
      refine IT _ e _ _ h2 he hd' (fun h' => ?_) (fun h' => ?_)
      · refine b_196_185 _ _ _ ?_ ?_
        · intro z185
          first | (exact absurd z185 (by decide)) | (exact absurd (by decide) z185) | (exact absurd rfl z185) | (exact absurd z185 (of_nn (by omega))) | (exact absurd (of_np (by omega)) z185) | omega
        · intro z185
          refine b_196_188 _ _ _ ?_
          refine b_196_193 _ _ _ (by first | assumption | (exact mL_get (by decide)) | (rw [mL_len]; decide) | (simp only [mL_set]; exact mL_get (by decide)) | (simp only [mL_set, mL_len]; decide) | (exact va_eq) | (exact (va_ne (by omega)).trans (by assumption)) | (exact (va_ne (by omega)).trans va_eq) | (exact (va_ne (by omega)).trans ((va_ne (by omega)).trans (by assumption))) | (exact (va_ne (by omega)).trans ((va_ne (by omega)).trans ((va_ne (by omega)).trans (by assumption)))) | rfl | (exact Or.inl rfl) | (exact Or.inr rfl) | omega | (exact Nat.le_of_ble_eq_true rfl) | decide | (exact ⟨by decide, rfl, by decide⟩)) ?_
          first | exact K1 (hj.mpr (Or.inr (Or.inl h))) | exact K1 (hj.mpr (Or.inr (Or.inr h')))
      · refine b_196_185 _ _ _ ?_ ?_
        · intro z185
          refine b_196_192 _ _ _ ?_
          refine b_196_193 _ _ _ (by first | assumption | (exact mL_get (by decide)) | (rw [mL_len]; decide) | (simp only [mL_set]; exact mL_get (by decide)) | (simp only [mL_set, mL_len]; decide) | (exact va_eq) | (exact (va_ne (by omega)).trans (by assumption)) | (exact (va_ne (by omega)).trans va_eq) | (exact (va_ne (by omega)).trans ((va_ne (by omega)).trans (by assumption))) | (exact (va_ne (by omega)).trans ((va_ne (by omega)).trans ((va_ne (by omega)).trans (by assumption)))) | rfl | (exact Or.inl rfl) | (exact Or.inr rfl) | omega | (exact Nat.le_of_ble_eq_true rfl) | decide | (exact ⟨by decide, rfl, by decide⟩)) ?_
          exact K0 (fun g => (hj.mp g).elim hnb (fun g => g.elim h h'))
        · intro z185
          first | (exact absurd z185 (by decide)) | (exact absurd (by decide) z185) | (exact absurd rfl z185) | (exact absurd z185 (of_nn (by omega))) | (exact absurd (of_np (by omega)) z185) | omega
theorem gt_15 (hn : 575 ≤ n) (hT : gTb b N BN tb bd) (IT : gTi n sl f0 b N tb bd k) (hd' : k ≤ d) (hm : m < N) (he : e ≤ N) (ho : (tb m).1 = 15) (hx : (tb m).2.2.2.2.2.1 = m + 1) (h1 : mo_v tb k (m + 1) (tb m).2.2.2.2.2.2.1) (h2 : mo_v tb k (tb m).2.2.2.2.2.2.1 e) (K1 : mo_any tb bd m e → Q (.inl (some (.int 1))) (n, sl, hd b f0)) (K0 : ¬ mo_any tb bd m e → Q (.inl (some (.int 0))) (n, sl, hd b f0)) : mi_W (d + 1) 196 0 (mi_en 2 [.ref 505, .int (Int32.ofNat m)]) [] (n, sl, hd b f0) Q := by
  have hN8 := hT.1.1
  have hrow := hT.1.2.1 m hm
  have hix := ix_of (w := m) (m := 800) (by omega) (by omega)
  have h0 : b.I 509 m = 15 := by rw [hrow.1, ho]; rfl
  have hnb : ¬ mo_bad tb bd m := mo_bad_v (by omega) (by omega) (by omega)
  have l1 := mo_v_lt _ _ _ h1
  have l2 := mo_v_lt _ _ _ h2
  have hj := mo_any_j (tb := tb) (bd := bd) (a := m) (b := m + 1) (c := e) (by omega) (by omega)
  rw [mo_any_1, mo_any_j (a := m + 1) (b := (tb m).2.2.2.2.2.2.1) (c := e) (by omega) (by omega)] at hj
  have w6 : b.I 510 m = Int32.ofNat (m + 1) := by rw [← hx]; exact hrow.2.2.2.2.2.2.1 (by rw [ho]; decide)
  have w10 : b.I 511 m = Int32.ofNat (tb m).2.2.2.2.2.2.1 := hrow.2.2.2.2.2.2.2.2.2.2.1 (by rw [ho]; decide)
  refine b_196_0 (t12 := 162) _ _ _ _ _ _ (by first | (exact hd_9) | assumption) (by omega) (by exact mL_get (by decide)) (by first | (exact hd_I (by omega) rfl) | assumption) (Or.inl (by omega)) (by first | assumption | (exact ix_of (by omega) (by omega)) | (exact ⟨by decide, rfl, by decide⟩)) (by rw [h0]; decide +kernel) ?_
  refine b_196_162 _ _ _ _ _ _ (by first | (exact hd_9) | assumption) (by omega) (by exact mL_get (by decide)) (by first | (exact hd_I (by omega) rfl) | assumption) (Or.inl (by omega)) (by first | assumption | (exact ix_of (by omega) (by omega)) | (exact ⟨by decide, rfl, by decide⟩)) (by first | (exact hd_9) | assumption) (by omega) ?_
  rw [w6]
  refine IT (m + 1) _ _ _ h1 (by omega) hd' (fun h => ?_) (fun h => ?_)
  · refine b_196_172 _ _ _ ?_ ?_
    · intro z172
      refine b_196_188 _ _ _ ?_
      refine b_196_193 _ _ _ (by first | assumption | (exact mL_get (by decide)) | (rw [mL_len]; decide) | (simp only [mL_set]; exact mL_get (by decide)) | (simp only [mL_set, mL_len]; decide) | (exact va_eq) | (exact (va_ne (by omega)).trans (by assumption)) | (exact (va_ne (by omega)).trans va_eq) | (exact (va_ne (by omega)).trans ((va_ne (by omega)).trans (by assumption))) | (exact (va_ne (by omega)).trans ((va_ne (by omega)).trans ((va_ne (by omega)).trans (by assumption)))) | rfl | (exact Or.inl rfl) | (exact Or.inr rfl) | omega | (exact Nat.le_of_ble_eq_true rfl) | decide | (exact ⟨by decide, rfl, by decide⟩)) ?_
      first | exact K1 (hj.mpr (Or.inr (Or.inl h))) | exact K1 (hj.mpr (Or.inr (Or.inr h')))
    · intro z172
      first | (exact absurd z172 (by decide)) | (exact absurd (by decide) z172) | (exact absurd rfl z172) | (exact absurd z172 (of_nn (by omega))) | (exact absurd (of_np (by omega)) z172) | omega
  · refine b_196_172 _ _ _ ?_ ?_
    · intro z172
      first | (exact absurd z172 (by decide)) | (exact absurd (by decide) z172) | (exact absurd rfl z172) | (exact absurd z172 (of_nn (by omega))) | (exact absurd (of_np (by omega)) z172) | omega
    · intro z172
      refine b_196_175 _ _ _ _ _ _ (by first | (exact hd_9) | assumption) (by omega) (by exact mL_get (by decide)) (by first | (exact hd_I (by omega) rfl) | assumption) (Or.inl (by omega)) (by first | assumption | (exact ix_of (by omega) (by omega)) | (exact ⟨by decide, rfl, by decide⟩)) (by first | (exact hd_9) | assumption) (by omega) ?_
      rw [w10]
      refine IT _ e _ _ h2 he hd' (fun h' => ?_) (fun h' => ?_)
      · refine b_196_185 _ _ _ ?_ ?_
        · intro z185
          first | (exact absurd z185 (by decide)) | (exact absurd (by decide) z185) | (exact absurd rfl z185) | (exact absurd z185 (of_nn (by omega))) | (exact absurd (of_np (by omega)) z185) | omega
        · intro z185
          refine b_196_188 _ _ _ ?_
          refine b_196_193 _ _ _ (by first | assumption | (exact mL_get (by decide)) | (rw [mL_len]; decide) | (simp only [mL_set]; exact mL_get (by decide)) | (simp only [mL_set, mL_len]; decide) | (exact va_eq) | (exact (va_ne (by omega)).trans (by assumption)) | (exact (va_ne (by omega)).trans va_eq) | (exact (va_ne (by omega)).trans ((va_ne (by omega)).trans (by assumption))) | (exact (va_ne (by omega)).trans ((va_ne (by omega)).trans ((va_ne (by omega)).trans (by assumption)))) | rfl | (exact Or.inl rfl) | (exact Or.inr rfl) | omega | (exact Nat.le_of_ble_eq_true rfl) | decide | (exact ⟨by decide, rfl, by decide⟩)) ?_
          first | exact K1 (hj.mpr (Or.inr (Or.inl h))) | exact K1 (hj.mpr (Or.inr (Or.inr h')))
      · refine b_196_185 _ _ _ ?_ ?_
        · intro z185
          refine b_196_192 _ _ _ ?_
          refine b_196_193 _ _ _ (by first | assumption | (exact mL_get (by decide)) | (rw [mL_len]; decide) | (simp only [mL_set]; exact mL_get (by decide)) | (simp only [mL_set, mL_len]; decide) | (exact va_eq) | (exact (va_ne (by omega)).trans (by assumption)) | (exact (va_ne (by omega)).trans va_eq) | (exact (va_ne (by omega)).trans ((va_ne (by omega)).trans (by assumption))) | (exact (va_ne (by omega)).trans ((va_ne (by omega)).trans ((va_ne (by omega)).trans (by assumption)))) | rfl | (exact Or.inl rfl) | (exact Or.inr rfl) | omega | (exact Nat.le_of_ble_eq_true rfl) | decide | (exact ⟨by decide, rfl, by decide⟩)) ?_
          exact K0 (fun g => (hj.mp g).elim hnb (fun g => g.elim h h'))
        · intro z185
          first | (exact absurd z185 (by decide)) | (exact absurd (by decide) z185) | (exact absurd rfl z185) | (exact absurd z185 (of_nn (by omega))) | (exact absurd (of_np (by omega)) z185) | omega
theorem gt_16 (hn : 575 ≤ n) (hT : gTb b N BN tb bd) (IT : gTi n sl f0 b N tb bd k) (hd' : k ≤ d) (hm : m < N) (he : e ≤ N) (ho : (tb m).1 = 16) (hx : (tb m).2.2.2.2.2.1 = m + 1) (h1 : mo_v tb k (m + 1) (tb m).2.2.2.2.2.2.1) (h2 : mo_v tb k (tb m).2.2.2.2.2.2.1 e) (K1 : mo_any tb bd m e → Q (.inl (some (.int 1))) (n, sl, hd b f0)) (K0 : ¬ mo_any tb bd m e → Q (.inl (some (.int 0))) (n, sl, hd b f0)) : mi_W (d + 1) 196 0 (mi_en 2 [.ref 505, .int (Int32.ofNat m)]) [] (n, sl, hd b f0) Q := by
  have hN8 := hT.1.1
  have hrow := hT.1.2.1 m hm
  have hix := ix_of (w := m) (m := 800) (by omega) (by omega)
  have h0 : b.I 509 m = 16 := by rw [hrow.1, ho]; rfl
  have hnb : ¬ mo_bad tb bd m := mo_bad_v (by omega) (by omega) (by omega)
  have l1 := mo_v_lt _ _ _ h1
  have l2 := mo_v_lt _ _ _ h2
  have hj := mo_any_j (tb := tb) (bd := bd) (a := m) (b := m + 1) (c := e) (by omega) (by omega)
  rw [mo_any_1, mo_any_j (a := m + 1) (b := (tb m).2.2.2.2.2.2.1) (c := e) (by omega) (by omega)] at hj
  have w6 : b.I 510 m = Int32.ofNat (m + 1) := by rw [← hx]; exact hrow.2.2.2.2.2.2.1 (by rw [ho]; decide)
  have w10 : b.I 511 m = Int32.ofNat (tb m).2.2.2.2.2.2.1 := hrow.2.2.2.2.2.2.2.2.2.2.1 (by rw [ho]; decide)
  refine b_196_0 (t12 := 162) _ _ _ _ _ _ (by first | (exact hd_9) | assumption) (by omega) (by exact mL_get (by decide)) (by first | (exact hd_I (by omega) rfl) | assumption) (Or.inl (by omega)) (by first | assumption | (exact ix_of (by omega) (by omega)) | (exact ⟨by decide, rfl, by decide⟩)) (by rw [h0]; decide +kernel) ?_
  refine b_196_162 _ _ _ _ _ _ (by first | (exact hd_9) | assumption) (by omega) (by exact mL_get (by decide)) (by first | (exact hd_I (by omega) rfl) | assumption) (Or.inl (by omega)) (by first | assumption | (exact ix_of (by omega) (by omega)) | (exact ⟨by decide, rfl, by decide⟩)) (by first | (exact hd_9) | assumption) (by omega) ?_
  rw [w6]
  refine IT (m + 1) _ _ _ h1 (by omega) hd' (fun h => ?_) (fun h => ?_)
  · refine b_196_172 _ _ _ ?_ ?_
    · intro z172
      refine b_196_188 _ _ _ ?_
      refine b_196_193 _ _ _ (by first | assumption | (exact mL_get (by decide)) | (rw [mL_len]; decide) | (simp only [mL_set]; exact mL_get (by decide)) | (simp only [mL_set, mL_len]; decide) | (exact va_eq) | (exact (va_ne (by omega)).trans (by assumption)) | (exact (va_ne (by omega)).trans va_eq) | (exact (va_ne (by omega)).trans ((va_ne (by omega)).trans (by assumption))) | (exact (va_ne (by omega)).trans ((va_ne (by omega)).trans ((va_ne (by omega)).trans (by assumption)))) | rfl | (exact Or.inl rfl) | (exact Or.inr rfl) | omega | (exact Nat.le_of_ble_eq_true rfl) | decide | (exact ⟨by decide, rfl, by decide⟩)) ?_
      first | exact K1 (hj.mpr (Or.inr (Or.inl h))) | exact K1 (hj.mpr (Or.inr (Or.inr h')))
    · intro z172
      first | (exact absurd z172 (by decide)) | (exact absurd (by decide) z172) | (exact absurd rfl z172) | (exact absurd z172 (of_nn (by omega))) | (exact absurd (of_np (by omega)) z172) | omega
  · refine b_196_172 _ _ _ ?_ ?_
    · intro z172
      first | (exact absurd z172 (by decide)) | (exact absurd (by decide) z172) | (exact absurd rfl z172) | (exact absurd z172 (of_nn (by omega))) | (exact absurd (of_np (by omega)) z172) | omega
    · intro z172
      refine b_196_175 _ _ _ _ _ _ (by first | (exact hd_9) | assumption) (by omega) (by exact mL_get (by decide)) (by first | (exact hd_I (by omega) rfl) | assumption) (Or.inl (by omega)) (by first | assumption | (exact ix_of (by omega) (by omega)) | (exact ⟨by decide, rfl, by decide⟩)) (by first | (exact hd_9) | assumption) (by omega) ?_
      rw [w10]
      refine IT _ e _ _ h2 he hd' (fun h' => ?_) (fun h' => ?_)
      · refine b_196_185 _ _ _ ?_ ?_
        · intro z185
          first | (exact absurd z185 (by decide)) | (exact absurd (by decide) z185) | (exact absurd rfl z185) | (exact absurd z185 (of_nn (by omega))) | (exact absurd (of_np (by omega)) z185) | omega
        · intro z185
          refine b_196_188 _ _ _ ?_
          refine b_196_193 _ _ _ (by first | assumption | (exact mL_get (by decide)) | (rw [mL_len]; decide) | (simp only [mL_set]; exact mL_get (by decide)) | (simp only [mL_set, mL_len]; decide) | (exact va_eq) | (exact (va_ne (by omega)).trans (by assumption)) | (exact (va_ne (by omega)).trans va_eq) | (exact (va_ne (by omega)).trans ((va_ne (by omega)).trans (by assumption))) | (exact (va_ne (by omega)).trans ((va_ne (by omega)).trans ((va_ne (by omega)).trans (by assumption)))) | rfl | (exact Or.inl rfl) | (exact Or.inr rfl) | omega | (exact Nat.le_of_ble_eq_true rfl) | decide | (exact ⟨by decide, rfl, by decide⟩)) ?_
          first | exact K1 (hj.mpr (Or.inr (Or.inl h))) | exact K1 (hj.mpr (Or.inr (Or.inr h')))
      · refine b_196_185 _ _ _ ?_ ?_
        · intro z185
          refine b_196_192 _ _ _ ?_
          refine b_196_193 _ _ _ (by first | assumption | (exact mL_get (by decide)) | (rw [mL_len]; decide) | (simp only [mL_set]; exact mL_get (by decide)) | (simp only [mL_set, mL_len]; decide) | (exact va_eq) | (exact (va_ne (by omega)).trans (by assumption)) | (exact (va_ne (by omega)).trans va_eq) | (exact (va_ne (by omega)).trans ((va_ne (by omega)).trans (by assumption))) | (exact (va_ne (by omega)).trans ((va_ne (by omega)).trans ((va_ne (by omega)).trans (by assumption)))) | rfl | (exact Or.inl rfl) | (exact Or.inr rfl) | omega | (exact Nat.le_of_ble_eq_true rfl) | decide | (exact ⟨by decide, rfl, by decide⟩)) ?_
          exact K0 (fun g => (hj.mp g).elim hnb (fun g => g.elim h h'))
        · intro z185
          first | (exact absurd z185 (by decide)) | (exact absurd (by decide) z185) | (exact absurd rfl z185) | (exact absurd z185 (of_nn (by omega))) | (exact absurd (of_np (by omega)) z185) | omega
theorem gt_24 (hn : 575 ≤ n) (hT : gTb b N BN tb bd) (IT : gTi n sl f0 b N tb bd k) (hd' : k ≤ d) (hm : m < N) (he : e ≤ N) (ho : (tb m).1 = 24) (hx : (tb m).2.2.2.2.2.1 = m + 1) (h1 : mo_v tb k (m + 1) (tb m).2.2.2.2.2.2.1) (h2 : mo_v tb k (tb m).2.2.2.2.2.2.1 e) (K1 : mo_any tb bd m e → Q (.inl (some (.int 1))) (n, sl, hd b f0)) (K0 : ¬ mo_any tb bd m e → Q (.inl (some (.int 0))) (n, sl, hd b f0)) : mi_W (d + 1) 196 0 (mi_en 2 [.ref 505, .int (Int32.ofNat m)]) [] (n, sl, hd b f0) Q := by
  have hN8 := hT.1.1
  have hrow := hT.1.2.1 m hm
  have hix := ix_of (w := m) (m := 800) (by omega) (by omega)
  have h0 : b.I 509 m = 24 := by rw [hrow.1, ho]; rfl
  have hnb : ¬ mo_bad tb bd m := mo_bad_v (by omega) (by omega) (by omega)
  have l1 := mo_v_lt _ _ _ h1
  have l2 := mo_v_lt _ _ _ h2
  have hj := mo_any_j (tb := tb) (bd := bd) (a := m) (b := m + 1) (c := e) (by omega) (by omega)
  rw [mo_any_1, mo_any_j (a := m + 1) (b := (tb m).2.2.2.2.2.2.1) (c := e) (by omega) (by omega)] at hj
  have w6 : b.I 510 m = Int32.ofNat (m + 1) := by rw [← hx]; exact hrow.2.2.2.2.2.2.1 (by rw [ho]; decide)
  have w10 : b.I 511 m = Int32.ofNat (tb m).2.2.2.2.2.2.1 := hrow.2.2.2.2.2.2.2.2.2.2.1 (by rw [ho]; decide)
  refine b_196_0 (t12 := 162) _ _ _ _ _ _ (by first | (exact hd_9) | assumption) (by omega) (by exact mL_get (by decide)) (by first | (exact hd_I (by omega) rfl) | assumption) (Or.inl (by omega)) (by first | assumption | (exact ix_of (by omega) (by omega)) | (exact ⟨by decide, rfl, by decide⟩)) (by rw [h0]; decide +kernel) ?_
  refine b_196_162 _ _ _ _ _ _ (by first | (exact hd_9) | assumption) (by omega) (by exact mL_get (by decide)) (by first | (exact hd_I (by omega) rfl) | assumption) (Or.inl (by omega)) (by first | assumption | (exact ix_of (by omega) (by omega)) | (exact ⟨by decide, rfl, by decide⟩)) (by first | (exact hd_9) | assumption) (by omega) ?_
  rw [w6]
  refine IT (m + 1) _ _ _ h1 (by omega) hd' (fun h => ?_) (fun h => ?_)
  · refine b_196_172 _ _ _ ?_ ?_
    · intro z172
      refine b_196_188 _ _ _ ?_
      refine b_196_193 _ _ _ (by first | assumption | (exact mL_get (by decide)) | (rw [mL_len]; decide) | (simp only [mL_set]; exact mL_get (by decide)) | (simp only [mL_set, mL_len]; decide) | (exact va_eq) | (exact (va_ne (by omega)).trans (by assumption)) | (exact (va_ne (by omega)).trans va_eq) | (exact (va_ne (by omega)).trans ((va_ne (by omega)).trans (by assumption))) | (exact (va_ne (by omega)).trans ((va_ne (by omega)).trans ((va_ne (by omega)).trans (by assumption)))) | rfl | (exact Or.inl rfl) | (exact Or.inr rfl) | omega | (exact Nat.le_of_ble_eq_true rfl) | decide | (exact ⟨by decide, rfl, by decide⟩)) ?_
      first | exact K1 (hj.mpr (Or.inr (Or.inl h))) | exact K1 (hj.mpr (Or.inr (Or.inr h')))
    · intro z172
      first | (exact absurd z172 (by decide)) | (exact absurd (by decide) z172) | (exact absurd rfl z172) | (exact absurd z172 (of_nn (by omega))) | (exact absurd (of_np (by omega)) z172) | omega
  · refine b_196_172 _ _ _ ?_ ?_
    · intro z172
      first | (exact absurd z172 (by decide)) | (exact absurd (by decide) z172) | (exact absurd rfl z172) | (exact absurd z172 (of_nn (by omega))) | (exact absurd (of_np (by omega)) z172) | omega
    · intro z172
      refine b_196_175 _ _ _ _ _ _ (by first | (exact hd_9) | assumption) (by omega) (by exact mL_get (by decide)) (by first | (exact hd_I (by omega) rfl) | assumption) (Or.inl (by omega)) (by first | assumption | (exact ix_of (by omega) (by omega)) | (exact ⟨by decide, rfl, by decide⟩)) (by first | (exact hd_9) | assumption) (by omega) ?_
      rw [w10]
      refine IT _ e _ _ h2 he hd' (fun h' => ?_) (fun h' => ?_)
      · refine b_196_185 _ _ _ ?_ ?_
        · intro z185
          first | (exact absurd z185 (by decide)) | (exact absurd (by decide) z185) | (exact absurd rfl z185) | (exact absurd z185 (of_nn (by omega))) | (exact absurd (of_np (by omega)) z185) | omega
        · intro z185
          refine b_196_188 _ _ _ ?_
          refine b_196_193 _ _ _ (by first | assumption | (exact mL_get (by decide)) | (rw [mL_len]; decide) | (simp only [mL_set]; exact mL_get (by decide)) | (simp only [mL_set, mL_len]; decide) | (exact va_eq) | (exact (va_ne (by omega)).trans (by assumption)) | (exact (va_ne (by omega)).trans va_eq) | (exact (va_ne (by omega)).trans ((va_ne (by omega)).trans (by assumption))) | (exact (va_ne (by omega)).trans ((va_ne (by omega)).trans ((va_ne (by omega)).trans (by assumption)))) | rfl | (exact Or.inl rfl) | (exact Or.inr rfl) | omega | (exact Nat.le_of_ble_eq_true rfl) | decide | (exact ⟨by decide, rfl, by decide⟩)) ?_
          first | exact K1 (hj.mpr (Or.inr (Or.inl h))) | exact K1 (hj.mpr (Or.inr (Or.inr h')))
      · refine b_196_185 _ _ _ ?_ ?_
        · intro z185
          refine b_196_192 _ _ _ ?_
          refine b_196_193 _ _ _ (by first | assumption | (exact mL_get (by decide)) | (rw [mL_len]; decide) | (simp only [mL_set]; exact mL_get (by decide)) | (simp only [mL_set, mL_len]; decide) | (exact va_eq) | (exact (va_ne (by omega)).trans (by assumption)) | (exact (va_ne (by omega)).trans va_eq) | (exact (va_ne (by omega)).trans ((va_ne (by omega)).trans (by assumption))) | (exact (va_ne (by omega)).trans ((va_ne (by omega)).trans ((va_ne (by omega)).trans (by assumption)))) | rfl | (exact Or.inl rfl) | (exact Or.inr rfl) | omega | (exact Nat.le_of_ble_eq_true rfl) | decide | (exact ⟨by decide, rfl, by decide⟩)) ?_
          exact K0 (fun g => (hj.mp g).elim hnb (fun g => g.elim h h'))
        · intro z185
          first | (exact absurd z185 (by decide)) | (exact absurd (by decide) z185) | (exact absurd rfl z185) | (exact absurd z185 (of_nn (by omega))) | (exact absurd (of_np (by omega)) z185) | omega
theorem gt_25 (hn : 575 ≤ n) (hT : gTb b N BN tb bd) (IT : gTi n sl f0 b N tb bd k) (hd' : k ≤ d) (hm : m < N) (he : e ≤ N) (ho : (tb m).1 = 25) (hx : (tb m).2.2.2.2.2.1 = m + 1) (h1 : mo_v tb k (m + 1) (tb m).2.2.2.2.2.2.1) (h2 : mo_v tb k (tb m).2.2.2.2.2.2.1 e) (K1 : mo_any tb bd m e → Q (.inl (some (.int 1))) (n, sl, hd b f0)) (K0 : ¬ mo_any tb bd m e → Q (.inl (some (.int 0))) (n, sl, hd b f0)) : mi_W (d + 1) 196 0 (mi_en 2 [.ref 505, .int (Int32.ofNat m)]) [] (n, sl, hd b f0) Q := by
  have hN8 := hT.1.1
  have hrow := hT.1.2.1 m hm
  have hix := ix_of (w := m) (m := 800) (by omega) (by omega)
  have h0 : b.I 509 m = 25 := by rw [hrow.1, ho]; rfl
  have hnb : ¬ mo_bad tb bd m := mo_bad_v (by omega) (by omega) (by omega)
  have l1 := mo_v_lt _ _ _ h1
  have l2 := mo_v_lt _ _ _ h2
  have hj := mo_any_j (tb := tb) (bd := bd) (a := m) (b := m + 1) (c := e) (by omega) (by omega)
  rw [mo_any_1, mo_any_j (a := m + 1) (b := (tb m).2.2.2.2.2.2.1) (c := e) (by omega) (by omega)] at hj
  have w6 : b.I 510 m = Int32.ofNat (m + 1) := by rw [← hx]; exact hrow.2.2.2.2.2.2.1 (by rw [ho]; decide)
  have w10 : b.I 511 m = Int32.ofNat (tb m).2.2.2.2.2.2.1 := hrow.2.2.2.2.2.2.2.2.2.2.1 (by rw [ho]; decide)
  refine b_196_0 (t12 := 162) _ _ _ _ _ _ (by first | (exact hd_9) | assumption) (by omega) (by exact mL_get (by decide)) (by first | (exact hd_I (by omega) rfl) | assumption) (Or.inl (by omega)) (by first | assumption | (exact ix_of (by omega) (by omega)) | (exact ⟨by decide, rfl, by decide⟩)) (by rw [h0]; decide +kernel) ?_
  refine b_196_162 _ _ _ _ _ _ (by first | (exact hd_9) | assumption) (by omega) (by exact mL_get (by decide)) (by first | (exact hd_I (by omega) rfl) | assumption) (Or.inl (by omega)) (by first | assumption | (exact ix_of (by omega) (by omega)) | (exact ⟨by decide, rfl, by decide⟩)) (by first | (exact hd_9) | assumption) (by omega) ?_
  rw [w6]
  refine IT (m + 1) _ _ _ h1 (by omega) hd' (fun h => ?_) (fun h => ?_)
  · refine b_196_172 _ _ _ ?_ ?_
    · intro z172
      refine b_196_188 _ _ _ ?_
      refine b_196_193 _ _ _ (by first | assumption | (exact mL_get (by decide)) | (rw [mL_len]; decide) | (simp only [mL_set]; exact mL_get (by decide)) | (simp only [mL_set, mL_len]; decide) | (exact va_eq) | (exact (va_ne (by omega)).trans (by assumption)) | (exact (va_ne (by omega)).trans va_eq) | (exact (va_ne (by omega)).trans ((va_ne (by omega)).trans (by assumption))) | (exact (va_ne (by omega)).trans ((va_ne (by omega)).trans ((va_ne (by omega)).trans (by assumption)))) | rfl | (exact Or.inl rfl) | (exact Or.inr rfl) | omega | (exact Nat.le_of_ble_eq_true rfl) | decide | (exact ⟨by decide, rfl, by decide⟩)) ?_
      first | exact K1 (hj.mpr (Or.inr (Or.inl h))) | exact K1 (hj.mpr (Or.inr (Or.inr h')))
    · intro z172
      first | (exact absurd z172 (by decide)) | (exact absurd (by decide) z172) | (exact absurd rfl z172) | (exact absurd z172 (of_nn (by omega))) | (exact absurd (of_np (by omega)) z172) | omega
  · refine b_196_172 _ _ _ ?_ ?_
    · intro z172
      first | (exact absurd z172 (by decide)) | (exact absurd (by decide) z172) | (exact absurd rfl z172) | (exact absurd z172 (of_nn (by omega))) | (exact absurd (of_np (by omega)) z172) | omega
    · intro z172
      refine b_196_175 _ _ _ _ _ _ (by first | (exact hd_9) | assumption) (by omega) (by exact mL_get (by decide)) (by first | (exact hd_I (by omega) rfl) | assumption) (Or.inl (by omega)) (by first | assumption | (exact ix_of (by omega) (by omega)) | (exact ⟨by decide, rfl, by decide⟩)) (by first | (exact hd_9) | assumption) (by omega) ?_
      rw [w10]
      refine IT _ e _ _ h2 he hd' (fun h' => ?_) (fun h' => ?_)
      · refine b_196_185 _ _ _ ?_ ?_
        · intro z185
          first | (exact absurd z185 (by decide)) | (exact absurd (by decide) z185) | (exact absurd rfl z185) | (exact absurd z185 (of_nn (by omega))) | (exact absurd (of_np (by omega)) z185) | omega
        · intro z185
          refine b_196_188 _ _ _ ?_
          refine b_196_193 _ _ _ (by first | assumption | (exact mL_get (by decide)) | (rw [mL_len]; decide) | (simp only [mL_set]; exact mL_get (by decide)) | (simp only [mL_set, mL_len]; decide) | (exact va_eq) | (exact (va_ne (by omega)).trans (by assumption)) | (exact (va_ne (by omega)).trans va_eq) | (exact (va_ne (by omega)).trans ((va_ne (by omega)).trans (by assumption))) | (exact (va_ne (by omega)).trans ((va_ne (by omega)).trans ((va_ne (by omega)).trans (by assumption)))) | rfl | (exact Or.inl rfl) | (exact Or.inr rfl) | omega | (exact Nat.le_of_ble_eq_true rfl) | decide | (exact ⟨by decide, rfl, by decide⟩)) ?_
          first | exact K1 (hj.mpr (Or.inr (Or.inl h))) | exact K1 (hj.mpr (Or.inr (Or.inr h')))
      · refine b_196_185 _ _ _ ?_ ?_
        · intro z185
          refine b_196_192 _ _ _ ?_
          refine b_196_193 _ _ _ (by first | assumption | (exact mL_get (by decide)) | (rw [mL_len]; decide) | (simp only [mL_set]; exact mL_get (by decide)) | (simp only [mL_set, mL_len]; decide) | (exact va_eq) | (exact (va_ne (by omega)).trans (by assumption)) | (exact (va_ne (by omega)).trans va_eq) | (exact (va_ne (by omega)).trans ((va_ne (by omega)).trans (by assumption))) | (exact (va_ne (by omega)).trans ((va_ne (by omega)).trans ((va_ne (by omega)).trans (by assumption)))) | rfl | (exact Or.inl rfl) | (exact Or.inr rfl) | omega | (exact Nat.le_of_ble_eq_true rfl) | decide | (exact ⟨by decide, rfl, by decide⟩)) ?_
          exact K0 (fun g => (hj.mp g).elim hnb (fun g => g.elim h h'))
        · intro z185
          first | (exact absurd z185 (by decide)) | (exact absurd (by decide) z185) | (exact absurd rfl z185) | (exact absurd z185 (of_nn (by omega))) | (exact absurd (of_np (by omega)) z185) | omega
theorem gt_28 (hn : 575 ≤ n) (hT : gTb b N BN tb bd) (IT : gTi n sl f0 b N tb bd k) (hd' : k ≤ d) (hm : m < N) (he : e ≤ N) (ho : (tb m).1 = 28) (hx : (tb m).2.2.2.2.2.1 = m + 1) (h1 : mo_v tb k (m + 1) (tb m).2.2.2.2.2.2.1) (h2 : mo_v tb k (tb m).2.2.2.2.2.2.1 e) (K1 : mo_any tb bd m e → Q (.inl (some (.int 1))) (n, sl, hd b f0)) (K0 : ¬ mo_any tb bd m e → Q (.inl (some (.int 0))) (n, sl, hd b f0)) : mi_W (d + 1) 196 0 (mi_en 2 [.ref 505, .int (Int32.ofNat m)]) [] (n, sl, hd b f0) Q := by
  have hN8 := hT.1.1
  have hrow := hT.1.2.1 m hm
  have hix := ix_of (w := m) (m := 800) (by omega) (by omega)
  have h0 : b.I 509 m = 28 := by rw [hrow.1, ho]; rfl
  have hnb : ¬ mo_bad tb bd m := mo_bad_v (by omega) (by omega) (by omega)
  have l1 := mo_v_lt _ _ _ h1
  have l2 := mo_v_lt _ _ _ h2
  have hj := mo_any_j (tb := tb) (bd := bd) (a := m) (b := m + 1) (c := e) (by omega) (by omega)
  rw [mo_any_1, mo_any_j (a := m + 1) (b := (tb m).2.2.2.2.2.2.1) (c := e) (by omega) (by omega)] at hj
  have w6 : b.I 510 m = Int32.ofNat (m + 1) := by rw [← hx]; exact hrow.2.2.2.2.2.2.1 (by rw [ho]; decide)
  have w10 : b.I 511 m = Int32.ofNat (tb m).2.2.2.2.2.2.1 := hrow.2.2.2.2.2.2.2.2.2.2.1 (by rw [ho]; decide)
  refine b_196_0 (t12 := 162) _ _ _ _ _ _ (by first | (exact hd_9) | assumption) (by omega) (by exact mL_get (by decide)) (by first | (exact hd_I (by omega) rfl) | assumption) (Or.inl (by omega)) (by first | assumption | (exact ix_of (by omega) (by omega)) | (exact ⟨by decide, rfl, by decide⟩)) (by rw [h0]; decide +kernel) ?_
  refine b_196_162 _ _ _ _ _ _ (by first | (exact hd_9) | assumption) (by omega) (by exact mL_get (by decide)) (by first | (exact hd_I (by omega) rfl) | assumption) (Or.inl (by omega)) (by first | assumption | (exact ix_of (by omega) (by omega)) | (exact ⟨by decide, rfl, by decide⟩)) (by first | (exact hd_9) | assumption) (by omega) ?_
  rw [w6]
  refine IT (m + 1) _ _ _ h1 (by omega) hd' (fun h => ?_) (fun h => ?_)
  · refine b_196_172 _ _ _ ?_ ?_
    · intro z172
      refine b_196_188 _ _ _ ?_
      refine b_196_193 _ _ _ (by first | assumption | (exact mL_get (by decide)) | (rw [mL_len]; decide) | (simp only [mL_set]; exact mL_get (by decide)) | (simp only [mL_set, mL_len]; decide) | (exact va_eq) | (exact (va_ne (by omega)).trans (by assumption)) | (exact (va_ne (by omega)).trans va_eq) | (exact (va_ne (by omega)).trans ((va_ne (by omega)).trans (by assumption))) | (exact (va_ne (by omega)).trans ((va_ne (by omega)).trans ((va_ne (by omega)).trans (by assumption)))) | rfl | (exact Or.inl rfl) | (exact Or.inr rfl) | omega | (exact Nat.le_of_ble_eq_true rfl) | decide | (exact ⟨by decide, rfl, by decide⟩)) ?_
      first | exact K1 (hj.mpr (Or.inr (Or.inl h))) | exact K1 (hj.mpr (Or.inr (Or.inr h')))
    · intro z172
      first | (exact absurd z172 (by decide)) | (exact absurd (by decide) z172) | (exact absurd rfl z172) | (exact absurd z172 (of_nn (by omega))) | (exact absurd (of_np (by omega)) z172) | omega
  · refine b_196_172 _ _ _ ?_ ?_
    · intro z172
      first | (exact absurd z172 (by decide)) | (exact absurd (by decide) z172) | (exact absurd rfl z172) | (exact absurd z172 (of_nn (by omega))) | (exact absurd (of_np (by omega)) z172) | omega
    · intro z172
      refine b_196_175 _ _ _ _ _ _ (by first | (exact hd_9) | assumption) (by omega) (by exact mL_get (by decide)) (by first | (exact hd_I (by omega) rfl) | assumption) (Or.inl (by omega)) (by first | assumption | (exact ix_of (by omega) (by omega)) | (exact ⟨by decide, rfl, by decide⟩)) (by first | (exact hd_9) | assumption) (by omega) ?_
      rw [w10]
      refine IT _ e _ _ h2 he hd' (fun h' => ?_) (fun h' => ?_)
      · refine b_196_185 _ _ _ ?_ ?_
        · intro z185
          first | (exact absurd z185 (by decide)) | (exact absurd (by decide) z185) | (exact absurd rfl z185) | (exact absurd z185 (of_nn (by omega))) | (exact absurd (of_np (by omega)) z185) | omega
        · intro z185
          refine b_196_188 _ _ _ ?_
          refine b_196_193 _ _ _ (by first | assumption | (exact mL_get (by decide)) | (rw [mL_len]; decide) | (simp only [mL_set]; exact mL_get (by decide)) | (simp only [mL_set, mL_len]; decide) | (exact va_eq) | (exact (va_ne (by omega)).trans (by assumption)) | (exact (va_ne (by omega)).trans va_eq) | (exact (va_ne (by omega)).trans ((va_ne (by omega)).trans (by assumption))) | (exact (va_ne (by omega)).trans ((va_ne (by omega)).trans ((va_ne (by omega)).trans (by assumption)))) | rfl | (exact Or.inl rfl) | (exact Or.inr rfl) | omega | (exact Nat.le_of_ble_eq_true rfl) | decide | (exact ⟨by decide, rfl, by decide⟩)) ?_
          first | exact K1 (hj.mpr (Or.inr (Or.inl h))) | exact K1 (hj.mpr (Or.inr (Or.inr h')))
      · refine b_196_185 _ _ _ ?_ ?_
        · intro z185
          refine b_196_192 _ _ _ ?_
          refine b_196_193 _ _ _ (by first | assumption | (exact mL_get (by decide)) | (rw [mL_len]; decide) | (simp only [mL_set]; exact mL_get (by decide)) | (simp only [mL_set, mL_len]; decide) | (exact va_eq) | (exact (va_ne (by omega)).trans (by assumption)) | (exact (va_ne (by omega)).trans va_eq) | (exact (va_ne (by omega)).trans ((va_ne (by omega)).trans (by assumption))) | (exact (va_ne (by omega)).trans ((va_ne (by omega)).trans ((va_ne (by omega)).trans (by assumption)))) | rfl | (exact Or.inl rfl) | (exact Or.inr rfl) | omega | (exact Nat.le_of_ble_eq_true rfl) | decide | (exact ⟨by decide, rfl, by decide⟩)) ?_
          exact K0 (fun g => (hj.mp g).elim hnb (fun g => g.elim h h'))
        · intro z185
          first | (exact absurd z185 (by decide)) | (exact absurd (by decide) z185) | (exact absurd rfl z185) | (exact absurd z185 (of_nn (by omega))) | (exact absurd (of_np (by omega)) z185) | omega
theorem gt_29 (hn : 575 ≤ n) (hT : gTb b N BN tb bd) (IT : gTi n sl f0 b N tb bd k) (hd' : k ≤ d) (hm : m < N) (he : e ≤ N) (ho : (tb m).1 = 29) (hx : (tb m).2.2.2.2.2.1 = m + 1) (h1 : mo_v tb k (m + 1) (tb m).2.2.2.2.2.2.1) (h2 : mo_v tb k (tb m).2.2.2.2.2.2.1 e) (K1 : mo_any tb bd m e → Q (.inl (some (.int 1))) (n, sl, hd b f0)) (K0 : ¬ mo_any tb bd m e → Q (.inl (some (.int 0))) (n, sl, hd b f0)) : mi_W (d + 1) 196 0 (mi_en 2 [.ref 505, .int (Int32.ofNat m)]) [] (n, sl, hd b f0) Q := by
  have hN8 := hT.1.1
  have hrow := hT.1.2.1 m hm
  have hix := ix_of (w := m) (m := 800) (by omega) (by omega)
  have h0 : b.I 509 m = 29 := by rw [hrow.1, ho]; rfl
  have hnb : ¬ mo_bad tb bd m := mo_bad_v (by omega) (by omega) (by omega)
  have l1 := mo_v_lt _ _ _ h1
  have l2 := mo_v_lt _ _ _ h2
  have hj := mo_any_j (tb := tb) (bd := bd) (a := m) (b := m + 1) (c := e) (by omega) (by omega)
  rw [mo_any_1, mo_any_j (a := m + 1) (b := (tb m).2.2.2.2.2.2.1) (c := e) (by omega) (by omega)] at hj
  have w6 : b.I 510 m = Int32.ofNat (m + 1) := by rw [← hx]; exact hrow.2.2.2.2.2.2.1 (by rw [ho]; decide)
  have w10 : b.I 511 m = Int32.ofNat (tb m).2.2.2.2.2.2.1 := hrow.2.2.2.2.2.2.2.2.2.2.1 (by rw [ho]; decide)
  refine b_196_0 (t12 := 162) _ _ _ _ _ _ (by first | (exact hd_9) | assumption) (by omega) (by exact mL_get (by decide)) (by first | (exact hd_I (by omega) rfl) | assumption) (Or.inl (by omega)) (by first | assumption | (exact ix_of (by omega) (by omega)) | (exact ⟨by decide, rfl, by decide⟩)) (by rw [h0]; decide +kernel) ?_
  refine b_196_162 _ _ _ _ _ _ (by first | (exact hd_9) | assumption) (by omega) (by exact mL_get (by decide)) (by first | (exact hd_I (by omega) rfl) | assumption) (Or.inl (by omega)) (by first | assumption | (exact ix_of (by omega) (by omega)) | (exact ⟨by decide, rfl, by decide⟩)) (by first | (exact hd_9) | assumption) (by omega) ?_
  rw [w6]
  refine IT (m + 1) _ _ _ h1 (by omega) hd' (fun h => ?_) (fun h => ?_)
  · refine b_196_172 _ _ _ ?_ ?_
    · intro z172
      refine b_196_188 _ _ _ ?_
      refine b_196_193 _ _ _ (by first | assumption | (exact mL_get (by decide)) | (rw [mL_len]; decide) | (simp only [mL_set]; exact mL_get (by decide)) | (simp only [mL_set, mL_len]; decide) | (exact va_eq) | (exact (va_ne (by omega)).trans (by assumption)) | (exact (va_ne (by omega)).trans va_eq) | (exact (va_ne (by omega)).trans ((va_ne (by omega)).trans (by assumption))) | (exact (va_ne (by omega)).trans ((va_ne (by omega)).trans ((va_ne (by omega)).trans (by assumption)))) | rfl | (exact Or.inl rfl) | (exact Or.inr rfl) | omega | (exact Nat.le_of_ble_eq_true rfl) | decide | (exact ⟨by decide, rfl, by decide⟩)) ?_
      first | exact K1 (hj.mpr (Or.inr (Or.inl h))) | exact K1 (hj.mpr (Or.inr (Or.inr h')))
    · intro z172
      first | (exact absurd z172 (by decide)) | (exact absurd (by decide) z172) | (exact absurd rfl z172) | (exact absurd z172 (of_nn (by omega))) | (exact absurd (of_np (by omega)) z172) | omega
  · refine b_196_172 _ _ _ ?_ ?_
    · intro z172
      first | (exact absurd z172 (by decide)) | (exact absurd (by decide) z172) | (exact absurd rfl z172) | (exact absurd z172 (of_nn (by omega))) | (exact absurd (of_np (by omega)) z172) | omega
    · intro z172
      refine b_196_175 _ _ _ _ _ _ (by first | (exact hd_9) | assumption) (by omega) (by exact mL_get (by decide)) (by first | (exact hd_I (by omega) rfl) | assumption) (Or.inl (by omega)) (by first | assumption | (exact ix_of (by omega) (by omega)) | (exact ⟨by decide, rfl, by decide⟩)) (by first | (exact hd_9) | assumption) (by omega) ?_
      rw [w10]
      refine IT _ e _ _ h2 he hd' (fun h' => ?_) (fun h' => ?_)
      · refine b_196_185 _ _ _ ?_ ?_
        · intro z185
          first | (exact absurd z185 (by decide)) | (exact absurd (by decide) z185) | (exact absurd rfl z185) | (exact absurd z185 (of_nn (by omega))) | (exact absurd (of_np (by omega)) z185) | omega
        · intro z185
          refine b_196_188 _ _ _ ?_
          refine b_196_193 _ _ _ (by first | assumption | (exact mL_get (by decide)) | (rw [mL_len]; decide) | (simp only [mL_set]; exact mL_get (by decide)) | (simp only [mL_set, mL_len]; decide) | (exact va_eq) | (exact (va_ne (by omega)).trans (by assumption)) | (exact (va_ne (by omega)).trans va_eq) | (exact (va_ne (by omega)).trans ((va_ne (by omega)).trans (by assumption))) | (exact (va_ne (by omega)).trans ((va_ne (by omega)).trans ((va_ne (by omega)).trans (by assumption)))) | rfl | (exact Or.inl rfl) | (exact Or.inr rfl) | omega | (exact Nat.le_of_ble_eq_true rfl) | decide | (exact ⟨by decide, rfl, by decide⟩)) ?_
          first | exact K1 (hj.mpr (Or.inr (Or.inl h))) | exact K1 (hj.mpr (Or.inr (Or.inr h')))
      · refine b_196_185 _ _ _ ?_ ?_
        · intro z185
          refine b_196_192 _ _ _ ?_
          refine b_196_193 _ _ _ (by first | assumption | (exact mL_get (by decide)) | (rw [mL_len]; decide) | (simp only [mL_set]; exact mL_get (by decide)) | (simp only [mL_set, mL_len]; decide) | (exact va_eq) | (exact (va_ne (by omega)).trans (by assumption)) | (exact (va_ne (by omega)).trans va_eq) | (exact (va_ne (by omega)).trans ((va_ne (by omega)).trans (by assumption))) | (exact (va_ne (by omega)).trans ((va_ne (by omega)).trans ((va_ne (by omega)).trans (by assumption)))) | rfl | (exact Or.inl rfl) | (exact Or.inr rfl) | omega | (exact Nat.le_of_ble_eq_true rfl) | decide | (exact ⟨by decide, rfl, by decide⟩)) ?_
          exact K0 (fun g => (hj.mp g).elim hnb (fun g => g.elim h h'))
        · intro z185
          first | (exact absurd z185 (by decide)) | (exact absurd (by decide) z185) | (exact absurd rfl z185) | (exact absurd z185 (of_nn (by omega))) | (exact absurd (of_np (by omega)) z185) | omega
theorem gt_30 (hn : 575 ≤ n) (hT : gTb b N BN tb bd) (IT : gTi n sl f0 b N tb bd k) (hd' : k ≤ d) (hm : m < N) (he : e ≤ N) (ho : (tb m).1 = 30) (hx : (tb m).2.2.2.2.2.1 = m + 1) (h1 : mo_v tb k (m + 1) (tb m).2.2.2.2.2.2.1) (h2 : mo_v tb k (tb m).2.2.2.2.2.2.1 e) (K1 : mo_any tb bd m e → Q (.inl (some (.int 1))) (n, sl, hd b f0)) (K0 : ¬ mo_any tb bd m e → Q (.inl (some (.int 0))) (n, sl, hd b f0)) : mi_W (d + 1) 196 0 (mi_en 2 [.ref 505, .int (Int32.ofNat m)]) [] (n, sl, hd b f0) Q := by
  have hN8 := hT.1.1
  have hrow := hT.1.2.1 m hm
  have hix := ix_of (w := m) (m := 800) (by omega) (by omega)
  have h0 : b.I 509 m = 30 := by rw [hrow.1, ho]; rfl
  have hnb : ¬ mo_bad tb bd m := mo_bad_v (by omega) (by omega) (by omega)
  have l1 := mo_v_lt _ _ _ h1
  have l2 := mo_v_lt _ _ _ h2
  have hj := mo_any_j (tb := tb) (bd := bd) (a := m) (b := m + 1) (c := e) (by omega) (by omega)
  rw [mo_any_1, mo_any_j (a := m + 1) (b := (tb m).2.2.2.2.2.2.1) (c := e) (by omega) (by omega)] at hj
  have w6 : b.I 510 m = Int32.ofNat (m + 1) := by rw [← hx]; exact hrow.2.2.2.2.2.2.1 (by rw [ho]; decide)
  have w10 : b.I 511 m = Int32.ofNat (tb m).2.2.2.2.2.2.1 := hrow.2.2.2.2.2.2.2.2.2.2.1 (by rw [ho]; decide)
  refine b_196_0 (t12 := 162) _ _ _ _ _ _ (by first | (exact hd_9) | assumption) (by omega) (by exact mL_get (by decide)) (by first | (exact hd_I (by omega) rfl) | assumption) (Or.inl (by omega)) (by first | assumption | (exact ix_of (by omega) (by omega)) | (exact ⟨by decide, rfl, by decide⟩)) (by rw [h0]; decide +kernel) ?_
  refine b_196_162 _ _ _ _ _ _ (by first | (exact hd_9) | assumption) (by omega) (by exact mL_get (by decide)) (by first | (exact hd_I (by omega) rfl) | assumption) (Or.inl (by omega)) (by first | assumption | (exact ix_of (by omega) (by omega)) | (exact ⟨by decide, rfl, by decide⟩)) (by first | (exact hd_9) | assumption) (by omega) ?_
  rw [w6]
  refine IT (m + 1) _ _ _ h1 (by omega) hd' (fun h => ?_) (fun h => ?_)
  · refine b_196_172 _ _ _ ?_ ?_
    · intro z172
      refine b_196_188 _ _ _ ?_
      refine b_196_193 _ _ _ (by first | assumption | (exact mL_get (by decide)) | (rw [mL_len]; decide) | (simp only [mL_set]; exact mL_get (by decide)) | (simp only [mL_set, mL_len]; decide) | (exact va_eq) | (exact (va_ne (by omega)).trans (by assumption)) | (exact (va_ne (by omega)).trans va_eq) | (exact (va_ne (by omega)).trans ((va_ne (by omega)).trans (by assumption))) | (exact (va_ne (by omega)).trans ((va_ne (by omega)).trans ((va_ne (by omega)).trans (by assumption)))) | rfl | (exact Or.inl rfl) | (exact Or.inr rfl) | omega | (exact Nat.le_of_ble_eq_true rfl) | decide | (exact ⟨by decide, rfl, by decide⟩)) ?_
      first | exact K1 (hj.mpr (Or.inr (Or.inl h))) | exact K1 (hj.mpr (Or.inr (Or.inr h')))
    · intro z172
      first | (exact absurd z172 (by decide)) | (exact absurd (by decide) z172) | (exact absurd rfl z172) | (exact absurd z172 (of_nn (by omega))) | (exact absurd (of_np (by omega)) z172) | omega
  · refine b_196_172 _ _ _ ?_ ?_
    · intro z172
      first | (exact absurd z172 (by decide)) | (exact absurd (by decide) z172) | (exact absurd rfl z172) | (exact absurd z172 (of_nn (by omega))) | (exact absurd (of_np (by omega)) z172) | omega
    · intro z172
      refine b_196_175 _ _ _ _ _ _ (by first | (exact hd_9) | assumption) (by omega) (by exact mL_get (by decide)) (by first | (exact hd_I (by omega) rfl) | assumption) (Or.inl (by omega)) (by first | assumption | (exact ix_of (by omega) (by omega)) | (exact ⟨by decide, rfl, by decide⟩)) (by first | (exact hd_9) | assumption) (by omega) ?_
      rw [w10]
      refine IT _ e _ _ h2 he hd' (fun h' => ?_) (fun h' => ?_)
      · refine b_196_185 _ _ _ ?_ ?_
        · intro z185
          first | (exact absurd z185 (by decide)) | (exact absurd (by decide) z185) | (exact absurd rfl z185) | (exact absurd z185 (of_nn (by omega))) | (exact absurd (of_np (by omega)) z185) | omega
        · intro z185
          refine b_196_188 _ _ _ ?_
          refine b_196_193 _ _ _ (by first | assumption | (exact mL_get (by decide)) | (rw [mL_len]; decide) | (simp only [mL_set]; exact mL_get (by decide)) | (simp only [mL_set, mL_len]; decide) | (exact va_eq) | (exact (va_ne (by omega)).trans (by assumption)) | (exact (va_ne (by omega)).trans va_eq) | (exact (va_ne (by omega)).trans ((va_ne (by omega)).trans (by assumption))) | (exact (va_ne (by omega)).trans ((va_ne (by omega)).trans ((va_ne (by omega)).trans (by assumption)))) | rfl | (exact Or.inl rfl) | (exact Or.inr rfl) | omega | (exact Nat.le_of_ble_eq_true rfl) | decide | (exact ⟨by decide, rfl, by decide⟩)) ?_
          first | exact K1 (hj.mpr (Or.inr (Or.inl h))) | exact K1 (hj.mpr (Or.inr (Or.inr h')))
      · refine b_196_185 _ _ _ ?_ ?_
        · intro z185
          refine b_196_192 _ _ _ ?_
          refine b_196_193 _ _ _ (by first | assumption | (exact mL_get (by decide)) | (rw [mL_len]; decide) | (simp only [mL_set]; exact mL_get (by decide)) | (simp only [mL_set, mL_len]; decide) | (exact va_eq) | (exact (va_ne (by omega)).trans (by assumption)) | (exact (va_ne (by omega)).trans va_eq) | (exact (va_ne (by omega)).trans ((va_ne (by omega)).trans (by assumption))) | (exact (va_ne (by omega)).trans ((va_ne (by omega)).trans ((va_ne (by omega)).trans (by assumption)))) | rfl | (exact Or.inl rfl) | (exact Or.inr rfl) | omega | (exact Nat.le_of_ble_eq_true rfl) | decide | (exact ⟨by decide, rfl, by decide⟩)) ?_
          exact K0 (fun g => (hj.mp g).elim hnb (fun g => g.elim h h'))
        · intro z185
          first | (exact absurd z185 (by decide)) | (exact absurd (by decide) z185) | (exact absurd rfl z185) | (exact absurd z185 (of_nn (by omega))) | (exact absurd (of_np (by omega)) z185) | omega
theorem gt_31 (hn : 575 ≤ n) (hT : gTb b N BN tb bd) (IT : gTi n sl f0 b N tb bd k) (hd' : k ≤ d) (hm : m < N) (he : e ≤ N) (ho : (tb m).1 = 31) (hx : (tb m).2.2.2.2.2.1 = m + 1) (h1 : mo_v tb k (m + 1) (tb m).2.2.2.2.2.2.1) (h2 : mo_v tb k (tb m).2.2.2.2.2.2.1 e) (K1 : mo_any tb bd m e → Q (.inl (some (.int 1))) (n, sl, hd b f0)) (K0 : ¬ mo_any tb bd m e → Q (.inl (some (.int 0))) (n, sl, hd b f0)) : mi_W (d + 1) 196 0 (mi_en 2 [.ref 505, .int (Int32.ofNat m)]) [] (n, sl, hd b f0) Q := by
  have hN8 := hT.1.1
  have hrow := hT.1.2.1 m hm
  have hix := ix_of (w := m) (m := 800) (by omega) (by omega)
  have h0 : b.I 509 m = 31 := by rw [hrow.1, ho]; rfl
  have hnb : ¬ mo_bad tb bd m := mo_bad_v (by omega) (by omega) (by omega)
  have l1 := mo_v_lt _ _ _ h1
  have l2 := mo_v_lt _ _ _ h2
  have hj := mo_any_j (tb := tb) (bd := bd) (a := m) (b := m + 1) (c := e) (by omega) (by omega)
  rw [mo_any_1, mo_any_j (a := m + 1) (b := (tb m).2.2.2.2.2.2.1) (c := e) (by omega) (by omega)] at hj
  have w6 : b.I 510 m = Int32.ofNat (m + 1) := by rw [← hx]; exact hrow.2.2.2.2.2.2.1 (by rw [ho]; decide)
  have w10 : b.I 511 m = Int32.ofNat (tb m).2.2.2.2.2.2.1 := hrow.2.2.2.2.2.2.2.2.2.2.1 (by rw [ho]; decide)
  refine b_196_0 (t12 := 162) _ _ _ _ _ _ (by first | (exact hd_9) | assumption) (by omega) (by exact mL_get (by decide)) (by first | (exact hd_I (by omega) rfl) | assumption) (Or.inl (by omega)) (by first | assumption | (exact ix_of (by omega) (by omega)) | (exact ⟨by decide, rfl, by decide⟩)) (by rw [h0]; decide +kernel) ?_
  refine b_196_162 _ _ _ _ _ _ (by first | (exact hd_9) | assumption) (by omega) (by exact mL_get (by decide)) (by first | (exact hd_I (by omega) rfl) | assumption) (Or.inl (by omega)) (by first | assumption | (exact ix_of (by omega) (by omega)) | (exact ⟨by decide, rfl, by decide⟩)) (by first | (exact hd_9) | assumption) (by omega) ?_
  rw [w6]
  refine IT (m + 1) _ _ _ h1 (by omega) hd' (fun h => ?_) (fun h => ?_)
  · refine b_196_172 _ _ _ ?_ ?_
    · intro z172
      refine b_196_188 _ _ _ ?_
      refine b_196_193 _ _ _ (by first | assumption | (exact mL_get (by decide)) | (rw [mL_len]; decide) | (simp only [mL_set]; exact mL_get (by decide)) | (simp only [mL_set, mL_len]; decide) | (exact va_eq) | (exact (va_ne (by omega)).trans (by assumption)) | (exact (va_ne (by omega)).trans va_eq) | (exact (va_ne (by omega)).trans ((va_ne (by omega)).trans (by assumption))) | (exact (va_ne (by omega)).trans ((va_ne (by omega)).trans ((va_ne (by omega)).trans (by assumption)))) | rfl | (exact Or.inl rfl) | (exact Or.inr rfl) | omega | (exact Nat.le_of_ble_eq_true rfl) | decide | (exact ⟨by decide, rfl, by decide⟩)) ?_
      first | exact K1 (hj.mpr (Or.inr (Or.inl h))) | exact K1 (hj.mpr (Or.inr (Or.inr h')))
    · intro z172
      first | (exact absurd z172 (by decide)) | (exact absurd (by decide) z172) | (exact absurd rfl z172) | (exact absurd z172 (of_nn (by omega))) | (exact absurd (of_np (by omega)) z172) | omega
  · refine b_196_172 _ _ _ ?_ ?_
    · intro z172
      first | (exact absurd z172 (by decide)) | (exact absurd (by decide) z172) | (exact absurd rfl z172) | (exact absurd z172 (of_nn (by omega))) | (exact absurd (of_np (by omega)) z172) | omega
    · intro z172
      refine b_196_175 _ _ _ _ _ _ (by first | (exact hd_9) | assumption) (by omega) (by exact mL_get (by decide)) (by first | (exact hd_I (by omega) rfl) | assumption) (Or.inl (by omega)) (by first | assumption | (exact ix_of (by omega) (by omega)) | (exact ⟨by decide, rfl, by decide⟩)) (by first | (exact hd_9) | assumption) (by omega) ?_
      rw [w10]
      refine IT _ e _ _ h2 he hd' (fun h' => ?_) (fun h' => ?_)
      · refine b_196_185 _ _ _ ?_ ?_
        · intro z185
          first | (exact absurd z185 (by decide)) | (exact absurd (by decide) z185) | (exact absurd rfl z185) | (exact absurd z185 (of_nn (by omega))) | (exact absurd (of_np (by omega)) z185) | omega
        · intro z185
          refine b_196_188 _ _ _ ?_
          refine b_196_193 _ _ _ (by first | assumption | (exact mL_get (by decide)) | (rw [mL_len]; decide) | (simp only [mL_set]; exact mL_get (by decide)) | (simp only [mL_set, mL_len]; decide) | (exact va_eq) | (exact (va_ne (by omega)).trans (by assumption)) | (exact (va_ne (by omega)).trans va_eq) | (exact (va_ne (by omega)).trans ((va_ne (by omega)).trans (by assumption))) | (exact (va_ne (by omega)).trans ((va_ne (by omega)).trans ((va_ne (by omega)).trans (by assumption)))) | rfl | (exact Or.inl rfl) | (exact Or.inr rfl) | omega | (exact Nat.le_of_ble_eq_true rfl) | decide | (exact ⟨by decide, rfl, by decide⟩)) ?_
          first | exact K1 (hj.mpr (Or.inr (Or.inl h))) | exact K1 (hj.mpr (Or.inr (Or.inr h')))
      · refine b_196_185 _ _ _ ?_ ?_
        · intro z185
          refine b_196_192 _ _ _ ?_
          refine b_196_193 _ _ _ (by first | assumption | (exact mL_get (by decide)) | (rw [mL_len]; decide) | (simp only [mL_set]; exact mL_get (by decide)) | (simp only [mL_set, mL_len]; decide) | (exact va_eq) | (exact (va_ne (by omega)).trans (by assumption)) | (exact (va_ne (by omega)).trans va_eq) | (exact (va_ne (by omega)).trans ((va_ne (by omega)).trans (by assumption))) | (exact (va_ne (by omega)).trans ((va_ne (by omega)).trans ((va_ne (by omega)).trans (by assumption)))) | rfl | (exact Or.inl rfl) | (exact Or.inr rfl) | omega | (exact Nat.le_of_ble_eq_true rfl) | decide | (exact ⟨by decide, rfl, by decide⟩)) ?_
          exact K0 (fun g => (hj.mp g).elim hnb (fun g => g.elim h h'))
        · intro z185
          first | (exact absurd z185 (by decide)) | (exact absurd (by decide) z185) | (exact absurd rfl z185) | (exact absurd z185 (of_nn (by omega))) | (exact absurd (of_np (by omega)) z185) | omega
theorem gt_32 (hn : 575 ≤ n) (hT : gTb b N BN tb bd) (IT : gTi n sl f0 b N tb bd k) (hd' : k ≤ d) (hm : m < N) (he : e ≤ N) (ho : (tb m).1 = 32) (hx : (tb m).2.2.2.2.2.1 = m + 1) (h1 : mo_v tb k (m + 1) (tb m).2.2.2.2.2.2.1) (h2 : mo_v tb k (tb m).2.2.2.2.2.2.1 e) (K1 : mo_any tb bd m e → Q (.inl (some (.int 1))) (n, sl, hd b f0)) (K0 : ¬ mo_any tb bd m e → Q (.inl (some (.int 0))) (n, sl, hd b f0)) : mi_W (d + 1) 196 0 (mi_en 2 [.ref 505, .int (Int32.ofNat m)]) [] (n, sl, hd b f0) Q := by
  have hN8 := hT.1.1
  have hrow := hT.1.2.1 m hm
  have hix := ix_of (w := m) (m := 800) (by omega) (by omega)
  have h0 : b.I 509 m = 32 := by rw [hrow.1, ho]; rfl
  have hnb : ¬ mo_bad tb bd m := mo_bad_v (by omega) (by omega) (by omega)
  have l1 := mo_v_lt _ _ _ h1
  have l2 := mo_v_lt _ _ _ h2
  have hj := mo_any_j (tb := tb) (bd := bd) (a := m) (b := m + 1) (c := e) (by omega) (by omega)
  rw [mo_any_1, mo_any_j (a := m + 1) (b := (tb m).2.2.2.2.2.2.1) (c := e) (by omega) (by omega)] at hj
  have w6 : b.I 510 m = Int32.ofNat (m + 1) := by rw [← hx]; exact hrow.2.2.2.2.2.2.1 (by rw [ho]; decide)
  have w10 : b.I 511 m = Int32.ofNat (tb m).2.2.2.2.2.2.1 := hrow.2.2.2.2.2.2.2.2.2.2.1 (by rw [ho]; decide)
  refine b_196_0 (t12 := 162) _ _ _ _ _ _ (by first | (exact hd_9) | assumption) (by omega) (by exact mL_get (by decide)) (by first | (exact hd_I (by omega) rfl) | assumption) (Or.inl (by omega)) (by first | assumption | (exact ix_of (by omega) (by omega)) | (exact ⟨by decide, rfl, by decide⟩)) (by rw [h0]; decide +kernel) ?_
  refine b_196_162 _ _ _ _ _ _ (by first | (exact hd_9) | assumption) (by omega) (by exact mL_get (by decide)) (by first | (exact hd_I (by omega) rfl) | assumption) (Or.inl (by omega)) (by first | assumption | (exact ix_of (by omega) (by omega)) | (exact ⟨by decide, rfl, by decide⟩)) (by first | (exact hd_9) | assumption) (by omega) ?_
  rw [w6]
  refine IT (m + 1) _ _ _ h1 (by omega) hd' (fun h => ?_) (fun h => ?_)
  · refine b_196_172 _ _ _ ?_ ?_
    · intro z172
      refine b_196_188 _ _ _ ?_
      refine b_196_193 _ _ _ (by first | assumption | (exact mL_get (by decide)) | (rw [mL_len]; decide) | (simp only [mL_set]; exact mL_get (by decide)) | (simp only [mL_set, mL_len]; decide) | (exact va_eq) | (exact (va_ne (by omega)).trans (by assumption)) | (exact (va_ne (by omega)).trans va_eq) | (exact (va_ne (by omega)).trans ((va_ne (by omega)).trans (by assumption))) | (exact (va_ne (by omega)).trans ((va_ne (by omega)).trans ((va_ne (by omega)).trans (by assumption)))) | rfl | (exact Or.inl rfl) | (exact Or.inr rfl) | omega | (exact Nat.le_of_ble_eq_true rfl) | decide | (exact ⟨by decide, rfl, by decide⟩)) ?_
      first | exact K1 (hj.mpr (Or.inr (Or.inl h))) | exact K1 (hj.mpr (Or.inr (Or.inr h')))
    · intro z172
      first | (exact absurd z172 (by decide)) | (exact absurd (by decide) z172) | (exact absurd rfl z172) | (exact absurd z172 (of_nn (by omega))) | (exact absurd (of_np (by omega)) z172) | omega
  · refine b_196_172 _ _ _ ?_ ?_
    · intro z172
      first | (exact absurd z172 (by decide)) | (exact absurd (by decide) z172) | (exact absurd rfl z172) | (exact absurd z172 (of_nn (by omega))) | (exact absurd (of_np (by omega)) z172) | omega
    · intro z172
      refine b_196_175 _ _ _ _ _ _ (by first | (exact hd_9) | assumption) (by omega) (by exact mL_get (by decide)) (by first | (exact hd_I (by omega) rfl) | assumption) (Or.inl (by omega)) (by first | assumption | (exact ix_of (by omega) (by omega)) | (exact ⟨by decide, rfl, by decide⟩)) (by first | (exact hd_9) | assumption) (by omega) ?_
      rw [w10]
      refine IT _ e _ _ h2 he hd' (fun h' => ?_) (fun h' => ?_)
      · refine b_196_185 _ _ _ ?_ ?_
        · intro z185
          first | (exact absurd z185 (by decide)) | (exact absurd (by decide) z185) | (exact absurd rfl z185) | (exact absurd z185 (of_nn (by omega))) | (exact absurd (of_np (by omega)) z185) | omega
        · intro z185
          refine b_196_188 _ _ _ ?_
          refine b_196_193 _ _ _ (by first | assumption | (exact mL_get (by decide)) | (rw [mL_len]; decide) | (simp only [mL_set]; exact mL_get (by decide)) | (simp only [mL_set, mL_len]; decide) | (exact va_eq) | (exact (va_ne (by omega)).trans (by assumption)) | (exact (va_ne (by omega)).trans va_eq) | (exact (va_ne (by omega)).trans ((va_ne (by omega)).trans (by assumption))) | (exact (va_ne (by omega)).trans ((va_ne (by omega)).trans ((va_ne (by omega)).trans (by assumption)))) | rfl | (exact Or.inl rfl) | (exact Or.inr rfl) | omega | (exact Nat.le_of_ble_eq_true rfl) | decide | (exact ⟨by decide, rfl, by decide⟩)) ?_
          first | exact K1 (hj.mpr (Or.inr (Or.inl h))) | exact K1 (hj.mpr (Or.inr (Or.inr h')))
      · refine b_196_185 _ _ _ ?_ ?_
        · intro z185
          refine b_196_192 _ _ _ ?_
          refine b_196_193 _ _ _ (by first | assumption | (exact mL_get (by decide)) | (rw [mL_len]; decide) | (simp only [mL_set]; exact mL_get (by decide)) | (simp only [mL_set, mL_len]; decide) | (exact va_eq) | (exact (va_ne (by omega)).trans (by assumption)) | (exact (va_ne (by omega)).trans va_eq) | (exact (va_ne (by omega)).trans ((va_ne (by omega)).trans (by assumption))) | (exact (va_ne (by omega)).trans ((va_ne (by omega)).trans ((va_ne (by omega)).trans (by assumption)))) | rfl | (exact Or.inl rfl) | (exact Or.inr rfl) | omega | (exact Nat.le_of_ble_eq_true rfl) | decide | (exact ⟨by decide, rfl, by decide⟩)) ?_
          exact K0 (fun g => (hj.mp g).elim hnb (fun g => g.elim h h'))
        · intro z185
          first | (exact absurd z185 (by decide)) | (exact absurd (by decide) z185) | (exact absurd rfl z185) | (exact absurd z185 (of_nn (by omega))) | (exact absurd (of_np (by omega)) z185) | omega
theorem gt_21 (hn : 575 ≤ n) (hT : gTb b N BN tb bd) (IT : gTi n sl f0 b N tb bd k) (hd' : k ≤ d) (hm : m < N) (he : e ≤ N) (ho : (tb m).1 = 21) (hx : (tb m).2.2.2.2.2.1 = m + 1) (h1 : mo_v tb k (m + 1) (tb m).2.2.2.2.2.2.1) (h2 : mo_v tb k (tb m).2.2.2.2.2.2.1 (tb m).2.2.2.2.2.2.2.1) (h3 : mo_v tb k (tb m).2.2.2.2.2.2.2.1 e) (K1 : mo_any tb bd m e → Q (.inl (some (.int 1))) (n, sl, hd b f0)) (K0 : ¬ mo_any tb bd m e → Q (.inl (some (.int 0))) (n, sl, hd b f0)) : mi_W (d + 1) 196 0 (mi_en 2 [.ref 505, .int (Int32.ofNat m)]) [] (n, sl, hd b f0) Q := by
  have hN8 := hT.1.1
  have hrow := hT.1.2.1 m hm
  have hix := ix_of (w := m) (m := 800) (by omega) (by omega)
  have h0 : b.I 509 m = 21 := by rw [hrow.1, ho]; rfl
  have hnb : ¬ mo_bad tb bd m := mo_bad_v (by omega) (by omega) (by omega)
  have l1 := mo_v_lt _ _ _ h1
  have l2 := mo_v_lt _ _ _ h2
  have l3 := mo_v_lt _ _ _ h3
  have hj := mo_any_j (tb := tb) (bd := bd) (a := m) (b := m + 1) (c := e) (by omega) (by omega)
  rw [mo_any_1, mo_any_j (a := m + 1) (b := (tb m).2.2.2.2.2.2.1) (c := e) (by omega) (by omega), mo_any_j (a := (tb m).2.2.2.2.2.2.1) (b := (tb m).2.2.2.2.2.2.2.1) (c := e) (by omega) (by omega)] at hj
  have w5 : b.I 513 m = Int32.ofNat (m + 1) := by rw [← hx]; exact hrow.2.2.2.2.2.1 (by rw [ho]; decide)
  have w9 : b.I 510 m = Int32.ofNat (tb m).2.2.2.2.2.2.1 := hrow.2.2.2.2.2.2.2.2.2.1 (by rw [ho]; decide)
  have w11 : b.I 511 m = Int32.ofNat (tb m).2.2.2.2.2.2.2.1 := hrow.2.2.2.2.2.2.2.2.2.2.2.1 (by rw [ho]; decide)
  refine b_196_0 (t12 := 117) _ _ _ _ _ _ (by first | (exact hd_9) | assumption) (by omega) (by exact mL_get (by decide)) (by first | (exact hd_I (by omega) rfl) | assumption) (Or.inl (by omega)) (by first | assumption | (exact ix_of (by omega) (by omega)) | (exact ⟨by decide, rfl, by decide⟩)) (by rw [h0]; decide +kernel) ?_
  refine b_196_117 _ _ _ _ _ _ (by first | (exact hd_9) | assumption) (by omega) (by exact mL_get (by decide)) (by first | (exact hd_I (by omega) rfl) | assumption) (Or.inl (by omega)) (by first | assumption | (exact ix_of (by omega) (by omega)) | (exact ⟨by decide, rfl, by decide⟩)) (by first | (exact hd_9) | assumption) (by omega) ?_
  rw [w5]
  refine IT (m + 1) _ _ _ h1 (by omega) hd' (fun h => ?_) (fun h => ?_)
  · refine b_196_127 _ _ _ ?_ ?_
    · intro z127
      refine b_196_156 _ _ _ ?_
      refine b_196_161 _ _ _ (by first | assumption | (exact mL_get (by decide)) | (rw [mL_len]; decide) | (simp only [mL_set]; exact mL_get (by decide)) | (simp only [mL_set, mL_len]; decide) | (exact va_eq) | (exact (va_ne (by omega)).trans (by assumption)) | (exact (va_ne (by omega)).trans va_eq) | (exact (va_ne (by omega)).trans ((va_ne (by omega)).trans (by assumption))) | (exact (va_ne (by omega)).trans ((va_ne (by omega)).trans ((va_ne (by omega)).trans (by assumption)))) | rfl | (exact Or.inl rfl) | (exact Or.inr rfl) | omega | (exact Nat.le_of_ble_eq_true rfl) | decide | (exact ⟨by decide, rfl, by decide⟩)) ?_
      first | exact K1 (hj.mpr (Or.inr (Or.inl h))) | exact K1 (hj.mpr (Or.inr (Or.inr (Or.inl h')))) | exact K1 (hj.mpr (Or.inr (Or.inr (Or.inr h''))))
    · intro z127
      first | (exact absurd z127 (by decide)) | (exact absurd (by decide) z127) | (exact absurd rfl z127) | (exact absurd z127 (of_nn (by omega))) | (exact absurd (of_np (by omega)) z127) | omega
  · refine b_196_127 _ _ _ ?_ ?_
    · intro z127
      first | (exact absurd z127 (by decide)) | (exact absurd (by decide) z127) | (exact absurd rfl z127) | (exact absurd z127 (of_nn (by omega))) | (exact absurd (of_np (by omega)) z127) | omega
    · intro z127
      refine b_196_130 _ _ _ _ _ _ (by first | (exact hd_9) | assumption) (by omega) (by exact mL_get (by decide)) (by first | (exact hd_I (by omega) rfl) | assumption) (Or.inl (by omega)) (by first | assumption | (exact ix_of (by omega) (by omega)) | (exact ⟨by decide, rfl, by decide⟩)) (by first | (exact hd_9) | assumption) (by omega) ?_
      rw [w9]
      refine IT _ _ _ _ h2 (by omega) hd' (fun h' => ?_) (fun h' => ?_)
      · refine b_196_140 _ _ _ ?_ ?_
        · intro z140
          refine b_196_156 _ _ _ ?_
          refine b_196_161 _ _ _ (by first | assumption | (exact mL_get (by decide)) | (rw [mL_len]; decide) | (simp only [mL_set]; exact mL_get (by decide)) | (simp only [mL_set, mL_len]; decide) | (exact va_eq) | (exact (va_ne (by omega)).trans (by assumption)) | (exact (va_ne (by omega)).trans va_eq) | (exact (va_ne (by omega)).trans ((va_ne (by omega)).trans (by assumption))) | (exact (va_ne (by omega)).trans ((va_ne (by omega)).trans ((va_ne (by omega)).trans (by assumption)))) | rfl | (exact Or.inl rfl) | (exact Or.inr rfl) | omega | (exact Nat.le_of_ble_eq_true rfl) | decide | (exact ⟨by decide, rfl, by decide⟩)) ?_
          first | exact K1 (hj.mpr (Or.inr (Or.inl h))) | exact K1 (hj.mpr (Or.inr (Or.inr (Or.inl h')))) | exact K1 (hj.mpr (Or.inr (Or.inr (Or.inr h''))))
        · intro z140
          first | (exact absurd z140 (by decide)) | (exact absurd (by decide) z140) | (exact absurd rfl z140) | (exact absurd z140 (of_nn (by omega))) | (exact absurd (of_np (by omega)) z140) | omega
      · refine b_196_140 _ _ _ ?_ ?_
        · intro z140
          first | (exact absurd z140 (by decide)) | (exact absurd (by decide) z140) | (exact absurd rfl z140) | (exact absurd z140 (of_nn (by omega))) | (exact absurd (of_np (by omega)) z140) | omega
        · intro z140
          refine b_196_143 _ _ _ _ _ _ (by first | (exact hd_9) | assumption) (by omega) (by exact mL_get (by decide)) (by first | (exact hd_I (by omega) rfl) | assumption) (Or.inl (by omega)) (by first | assumption | (exact ix_of (by omega) (by omega)) | (exact ⟨by decide, rfl, by decide⟩)) (by first | (exact hd_9) | assumption) (by omega) ?_
          rw [w11]
          refine IT _ e _ _ h3 he hd' (fun h'' => ?_) (fun h'' => ?_)
          · refine b_196_153 _ _ _ ?_ ?_
            · intro z153
              first | (exact absurd z153 (by decide)) | (exact absurd (by decide) z153) | (exact absurd rfl z153) | (exact absurd z153 (of_nn (by omega))) | (exact absurd (of_np (by omega)) z153) | omega
            · intro z153
              refine b_196_156 _ _ _ ?_
              refine b_196_161 _ _ _ (by first | assumption | (exact mL_get (by decide)) | (rw [mL_len]; decide) | (simp only [mL_set]; exact mL_get (by decide)) | (simp only [mL_set, mL_len]; decide) | (exact va_eq) | (exact (va_ne (by omega)).trans (by assumption)) | (exact (va_ne (by omega)).trans va_eq) | (exact (va_ne (by omega)).trans ((va_ne (by omega)).trans (by assumption))) | (exact (va_ne (by omega)).trans ((va_ne (by omega)).trans ((va_ne (by omega)).trans (by assumption)))) | rfl | (exact Or.inl rfl) | (exact Or.inr rfl) | omega | (exact Nat.le_of_ble_eq_true rfl) | decide | (exact ⟨by decide, rfl, by decide⟩)) ?_
              first | exact K1 (hj.mpr (Or.inr (Or.inl h))) | exact K1 (hj.mpr (Or.inr (Or.inr (Or.inl h')))) | exact K1 (hj.mpr (Or.inr (Or.inr (Or.inr h''))))
          · refine b_196_153 _ _ _ ?_ ?_
            · intro z153
              refine b_196_160 _ _ _ ?_
              refine b_196_161 _ _ _ (by first | assumption | (exact mL_get (by decide)) | (rw [mL_len]; decide) | (simp only [mL_set]; exact mL_get (by decide)) | (simp only [mL_set, mL_len]; decide) | (exact va_eq) | (exact (va_ne (by omega)).trans (by assumption)) | (exact (va_ne (by omega)).trans va_eq) | (exact (va_ne (by omega)).trans ((va_ne (by omega)).trans (by assumption))) | (exact (va_ne (by omega)).trans ((va_ne (by omega)).trans ((va_ne (by omega)).trans (by assumption)))) | rfl | (exact Or.inl rfl) | (exact Or.inr rfl) | omega | (exact Nat.le_of_ble_eq_true rfl) | decide | (exact ⟨by decide, rfl, by decide⟩)) ?_
              exact K0 (fun g => (hj.mp g).elim hnb (fun g => g.elim h (fun g => g.elim h' h'')))
            · intro z153
              first | (exact absurd z153 (by decide)) | (exact absurd (by decide) z153) | (exact absurd rfl z153) | (exact absurd z153 (of_nn (by omega))) | (exact absurd (of_np (by omega)) z153) | omega
theorem g_timed (hn : 575 ≤ n) (hT : gTb b N BN tb bd) : ∀ k, gTi n sl f0 b N tb bd k := by
  intro k
  induction k with
  | zero =>
    intro m e d Q h
    exact h.elim
  | succ k ih =>
    intro m e d Q h he hd' K1 K0
    obtain ⟨dd, rfl⟩ : ∃ dd, d = dd + 1 := ⟨d - 1, by omega⟩
    have hlt := mo_v_lt _ _ _ h
    have hm : m < N := by omega
    rcases h with ⟨h0, h⟩ | ⟨h0, hx, h⟩ | ⟨h0, hx, h1, h2⟩ | ⟨h0, hx, h1, h2, h3⟩
    · have ho := mo_s0 ⟨_, mo_sh33 _ (by rw [h0]; decide)⟩ h0
      dsimp only at ho
      rcases ho with ho | ho | ho | ho | ho | ho | ho | ho | ho
      · exact gt_10 hn hT ih (by omega) hm he ho h K1 K0
      · exact gt_11 hn hT ih (by omega) hm he ho h K1 K0
      · exact gt_17 hn hT ih (by omega) hm he ho h K1 K0
      · exact gt_18 hn hT ih (by omega) hm he ho h K1 K0
      · exact gt_22 hn hT ih (by omega) hm he ho h K1 K0
      · exact gt_23 hn hT ih (by omega) hm he ho h K1 K0
      · exact gt_27 hn hT ih (by omega) hm he ho h K1 K0
      · exact gt_19 hn hT ih (by omega) hm he ho h K1 K0
      · exact gt_20 hn hT ih (by omega) hm he ho h K1 K0
    · have ho := mo_s1 ⟨_, mo_sh33 _ (by rw [h0]; decide)⟩ h0
      dsimp only at ho
      rcases ho with ho | ho
      · exact gt_12 hn hT ih (by omega) hm he ho hx h K1 K0
      · exact gt_26 hn hT ih (by omega) hm he ho hx h K1 K0
    · have ho := mo_s2 ⟨_, mo_sh33 _ (by rw [h0]; decide)⟩ h0
      dsimp only at ho
      rcases ho with ho | ho | ho | ho | ho | ho | ho | ho | ho | ho | ho
      · exact gt_13 hn hT ih (by omega) hm he ho hx h1 h2 K1 K0
      · exact gt_14 hn hT ih (by omega) hm he ho hx h1 h2 K1 K0
      · exact gt_15 hn hT ih (by omega) hm he ho hx h1 h2 K1 K0
      · exact gt_16 hn hT ih (by omega) hm he ho hx h1 h2 K1 K0
      · exact gt_24 hn hT ih (by omega) hm he ho hx h1 h2 K1 K0
      · exact gt_25 hn hT ih (by omega) hm he ho hx h1 h2 K1 K0
      · exact gt_28 hn hT ih (by omega) hm he ho hx h1 h2 K1 K0
      · exact gt_29 hn hT ih (by omega) hm he ho hx h1 h2 K1 K0
      · exact gt_30 hn hT ih (by omega) hm he ho hx h1 h2 K1 K0
      · exact gt_31 hn hT ih (by omega) hm he ho hx h1 h2 K1 K0
      · exact gt_32 hn hT ih (by omega) hm he ho hx h1 h2 K1 K0
    · have ho := mo_s3 ⟨_, mo_sh33 _ (by rw [h0]; decide)⟩ h0
      exact gt_21 hn hT ih (by omega) hm he ho hx h1 h2 h3 K1 K0
end
