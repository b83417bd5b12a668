/-! the second object: outside -/
section
variable {d n sl N BN k m e s M F : Nat} {b : mg_A} {f0 : Nat → mi_C} {tb : Nat → ms_N} {bd : Nat → Int64 × Int64} {Q : (Option Value ⊕ Nat) → mi_H → Prop} {l2 : Int32}
theorem g_sum (hn : 575 ≤ n) (hT : gTb b N BN tb bd) (hs : s < N) (hFM : F + M ≤ BN) (w13 : b.I 515 s = Int32.ofNat M) (w14 : b.I 530 s = Int32.ofNat F) : ∀ (t j acc : Nat) (l4 : Int64), j + t = F + M → l4.toInt = (acc : Int) → acc ≤ 300000000000000000 → (∀ l4' l5', (16 < l4'.toInt ↔ 16 < acc + ma_tt bd t j) → mi_W d 195 253 [some (.ref 505), some (.int l2), some (.int (Int32.ofNat s)), some (.long l4'), none, some (.int l5')] [] (n, sl, hd b f0) Q) → mi_W d 195 201 [some (.ref 505), some (.int l2), some (.int (Int32.ofNat s)), some (.long l4), none, some (.int (Int32.ofNat j))] [] (n, sl, hd b f0) Q := by
  have hN8 := hT.1.1
  have hb := hT.2.1
  have hb42 := hb.1
  have hixs := ix_of (w := s) (m := 800) (by omega) (by omega)
  have hsum : b.I 530 s + b.I 515 s = Int32.ofNat (F + M) := by
    rw [w13, w14, of_add']
  have s16 : (16 : Int64).toInt = 16 := rfl
  intro t
  induction t with
  | zero =>
    intro j acc l4 hj hl hacc KK
    have ett : acc + ma_tt bd 0 j = acc := rfl
    rw [ett] at KK
    refine b_195_201 _ _ _ _ _ _ _ _ _ (by first | (exact hd_9) | assumption) (by omega) (by exact mL_get (by decide)) (by first | (exact hd_I (by omega) rfl) | assumption) (Or.inl (by omega)) (by first | assumption | (exact ix_of (by omega) (by omega)) | (exact ⟨by decide, rfl, by decide⟩)) (by first | (exact hd_9) | assumption) (by omega) (by exact mL_get (by decide)) (by first | (exact hd_I (by omega) rfl) | assumption) (Or.inl (by omega)) (by first | assumption | (exact ix_of (by omega) (by omega)) | (exact ⟨by decide, rfl, by decide⟩)) ?_ ?_
    · intro z201
      exact KK _ _ (by rw [hl]; omega)
    · intro z201
      exact absurd ((i_le hsum rfl (by omega) (by omega)).mpr (by omega)) z201
  | succ t ih =>
    intro j acc l4 hj hl hacc KK
    have hixj := ix_of (w := j) (m := 4200) (by omega) (by omega)
    have hjj := hb.2.1 j (by omega)
    obtain ⟨c1, c2, c3⟩ := ma_ct_i (hT.2.2 j)
    have ett : ma_tt bd (t + 1) j = ma_ct (bd j) + ma_tt bd t (j + 1) := rfl
    rw [ett] at KK
    by_cases h16 : 16 < acc
    · have hg : 0 < lg_cmp l4 16 := lg_gt.mpr (Int64.lt_iff_toInt_lt.mpr (by rw [hl, s16]; omega))
      refine b_195_201 _ _ _ _ _ _ _ _ _ (by first | (exact hd_9) | assumption) (by omega) (by exact mL_get (by decide)) (by first | (exact hd_I (by omega) rfl) | assumption) (Or.inl (by omega)) (by first | assumption | (exact ix_of (by omega) (by omega)) | (exact ⟨by decide, rfl, by decide⟩)) (by first | (exact hd_9) | assumption) (by omega) (by exact mL_get (by decide)) (by first | (exact hd_I (by omega) rfl) | assumption) (Or.inl (by omega)) (by first | assumption | (exact ix_of (by omega) (by omega)) | (exact ⟨by decide, rfl, by decide⟩)) ?_ ?_
      · intro z201
        exact absurd ((i_le hsum rfl (by omega) (by omega)).mp z201) (by omega)
      · intro z201
        refine b_195_219 _ _ _ ?_ ?_
        · intro z219
          exact KK _ _ (by rw [hl]; omega)
        · intro z219
          exact absurd hg z219
    · have hg : ¬ 0 < lg_cmp l4 16 := fun h => h16 (by have := Int64.lt_iff_toInt_lt.mp (lg_gt.mp h); rw [hl, s16] at this; omega)
      have es : (l4 + ((bd j).2 - (bd j).1 + 1)).toInt = ((acc + ma_ct (bd j) : Nat) : Int) := by
        rw [Int64.toInt_add, hl, c1]
        exact bm64 (by omega) (by omega)
      rw [← Nat.add_assoc] at KK
      refine b_195_201 _ _ _ _ _ _ _ _ _ (by first | (exact hd_9) | assumption) (by omega) (by exact mL_get (by decide)) (by first | (exact hd_I (by omega) rfl) | assumption) (Or.inl (by omega)) (by first | assumption | (exact ix_of (by omega) (by omega)) | (exact ⟨by decide, rfl, by decide⟩)) (by first | (exact hd_9) | assumption) (by omega) (by exact mL_get (by decide)) (by first | (exact hd_I (by omega) rfl) | assumption) (Or.inl (by omega)) (by first | assumption | (exact ix_of (by omega) (by omega)) | (exact ⟨by decide, rfl, by decide⟩)) ?_ ?_
      · intro z201
        exact absurd ((i_le hsum rfl (by omega) (by omega)).mp z201) (by omega)
      · intro z201
        refine b_195_219 _ _ _ ?_ ?_
        · intro z219
          exact absurd z219 hg
        · intro z219
          refine b_195_227 _ _ _ _ _ _ _ _ _ (by first | (exact hd_9) | assumption) (by omega) (by exact mL_get (by decide)) (by first | (exact hd_J (by omega) rfl) | (exact hd_L1 (by assumption)) | (exact hd_L2 (by assumption)) | (exact hd_L3 (by assumption)) | assumption) (by omega) (by first | assumption | (exact ix_of (by omega) (by omega)) | (exact ⟨by decide, rfl, by decide⟩)) (by first | (exact hd_9) | assumption) (by omega) (by exact mL_get (by decide)) (by first | (exact hd_J (by omega) rfl) | (exact hd_L1 (by assumption)) | (exact hd_L2 (by assumption)) | (exact hd_L3 (by assumption)) | assumption) (by omega) (by first | assumption | (exact ix_of (by omega) (by omega)) | (exact ⟨by decide, rfl, by decide⟩)) ?_
          rw [hjj.1, hjj.2, of_succ]
          exact ih (j + 1) (acc + ma_ct (bd j)) _ (by omega) es (by omega) KK
def gOu (n sl : Nat) (f0 : Nat → mi_C) (b : mg_A) (N : Nat) (tb : Nat → ms_N) (bd : Nat → Int64 × Int64) (k : Nat) : Prop := ∀ (m e d : Nat) (Q : (Option Value ⊕ Nat) → mi_H → Prop), mo_c tb k m e → e ≤ N → k + 1 ≤ d → (mo_any tb bd m e → Q (.inl (some (.int 1))) (n, sl, hd b f0)) → (¬ mo_any tb bd m e → Q (.inl (some (.int 0))) (n, sl, hd b f0)) → mi_W d 195 0 (mi_en 6 [.ref 505, .int (Int32.ofNat m)]) [] (n, sl, hd b f0) Q
theorem g_oact (hn : 575 ≤ n) (hT : gTb b N BN tb bd) (IO : gOu n sl f0 b N tb bd k) (hd' : k + 1 ≤ d) : ∀ (t x s e : Nat) (o4 o5 o6 : Option Value), mo_a tb (mo_v tb k) (mo_c tb k) t x s e → e ≤ N → (mo_any tb bd s e → Q (.inl (some (.int 1))) (n, sl, hd b f0)) → (¬ mo_any tb bd s e → ∀ l3 o4 o5 o6, mi_W (d + 1) 195 273 [some (.ref 505), some (.int l2), some (.int l3), o4, o5, o6] [] (n, sl, hd b f0) Q) → mi_W (d + 1) 195 134 [some (.ref 505), some (.int l2), some (.int (mz_lk x)), o4, o5, o6] [] (n, sl, hd b f0) Q := by
  have hN8 := hT.1.1
  have none0 : ∀ s, ¬ mo_any tb bd s s := fun s ⟨i, h1, h2, _⟩ => by omega
  intro t
  induction t with
  | zero =>
    intro x s e o4 o5 o6 h he K1 Kn
    obtain ⟨hx, hes⟩ := h
    subst hx hes
    refine b_195_134 _ _ _ ?_ ?_
    · intro z134
      exact Kn (none0 _) _ _ _ _
    · intro z134
      exact absurd (by decide) z134
  | succ t ih =>
    intro x s e o4 o5 o6 h he K1 Kn
    have hse := mo_a_le (mo_v_lt k) (mo_c_lt k) (t + 1) x s e h
    rcases h with ⟨hx, hes⟩ | ⟨hx, hpos, h1, e2, h2, h3⟩
    · subst hx hes
      refine b_195_134 _ _ _ ?_ ?_
      · intro z134
        exact Kn (none0 _) _ _ _ _
      · intro z134
        exact absurd (by decide) z134
    · subst hx
      have pl2 := mo_c_lt _ _ _ h2
      have pl3 := mo_a_le (mo_v_lt k) (mo_c_lt k) _ _ _ _ h3
      have pl1 : x < (tb x).2.2.2.2.2.2.1 := by
        rcases h1 with ⟨-, h1⟩ | ⟨-, -, h1⟩
        · omega
        · have := mo_v_lt _ _ _ h1
          omega
      have hxN : x < N := by omega
      have hixx := ix_of (w := x) (m := 800) (by omega) (by omega)
      have hrow := hT.1.2.1 x hxN
      have hj1 := mo_any_j (tb := tb) (bd := bd) (a := x) (b := (tb x).2.2.2.2.2.2.1) (c := e) (by omega) (by omega)
      have hj2 := mo_any_j (tb := tb) (bd := bd) (a := (tb x).2.2.2.2.2.2.1) (b := e2) (c := e) (by omega) (by omega)
      have hj0 := mo_any_j (tb := tb) (bd := bd) (a := x) (b := x + 1) (c := (tb x).2.2.2.2.2.2.1) (by omega) (by omega)
      rw [mo_any_1] at hj0
      have hops : (tb x).1 = 7 ∨ (tb x).1 = 8 ∨ (tb x).1 = 9 := by
        rcases h1 with ⟨h1, -⟩ | ⟨h1, -⟩ <;> omega
      have w8 : b.I 516 x = Int32.ofNat (tb x).2.2.2.2.2.2.1 := hrow.2.2.2.2.2.2.2.2.1 (by rcases hops with h | h | h <;> rw [h] <;> decide)
      have w12 : b.I 529 x = mz_lk (tb x).2.2.2.2.2.2.2.1 := hrow.2.2.2.2.2.2.2.2.2.2.2.2.1 (by rcases hops with h | h | h <;> rw [h] <;> decide)
      have w0 : b.I 509 x = Int32.ofNat (tb x).1 := hrow.1
      have h263 : ¬ mo_any tb bd x (tb x).2.2.2.2.2.2.1 → ¬ mo_any tb bd (tb x).2.2.2.2.2.2.1 e2 → ∀ o4 o5 o6, mi_W (d + 1) 195 263 [some (.ref 505), some (.int l2), some (.int (Int32.ofNat x)), o4, o5, o6] [] (n, sl, hd b f0) Q := by
        intro n1 n2 o4 o5 o6
        refine b_195_263 _ _ _ _ _ _ (by first | (exact hd_9) | assumption) (by omega) (by exact mL_get (by decide)) (by first | (exact hd_I (by omega) rfl) | assumption) (Or.inl (by omega)) (by first | assumption | (exact ix_of (by omega) (by omega)) | (exact ⟨by decide, rfl, by decide⟩)) ?_
        rw [w12]
        exact ih _ _ _ _ _ _ h3 he (fun h => K1 (hj1.mpr (Or.inr (hj2.mpr (Or.inr h))))) (fun h => Kn (fun g => (hj1.mp g).elim n1 (fun g => (hj2.mp g).elim n2 h)))
      rw [mz_lk0 (by omega)]
      rcases h1 with ⟨h8, hy⟩ | ⟨h79, hxx, hv⟩
      · rcases hcm : tb x with ⟨op, A, B, D, uu, xx, yy, zz, M, F⟩
        have hFM := hT.2.1.2.2 x h8
        have w13 := hrow.2.2.2.2.2.2.2.2.2.2.2.2.2.1
        have w14 := hrow.2.2.2.2.2.2.2.2.2.2.2.2.2.2
        have h8' := h8
        rw [hcm] at h8' hFM w13 w14
        dsimp only at h8' hFM w13 w14
        subst h8'
        have hbad : mo_bad tb bd x ↔ 16 < ma_tt bd M F := by
          unfold mo_bad
          rw [hcm]
          exact ⟨fun h => h.elim (fun h => absurd (show (8 : Nat) = 19 from h) (by decide)) (fun h => h.elim (fun h => absurd (show (8 : Nat) = 20 from h) (by decide)) (fun h => h.2)), fun h => Or.inr (Or.inr ⟨rfl, h⟩)⟩
        have hone : mo_any tb bd x (tb x).2.2.2.2.2.2.1 ↔ 16 < ma_tt bd M F := by
          rw [hy, mo_any_1]
          exact hbad
        have s16 : (16 : Int64).toInt = 16 := rfl
        refine b_195_134 _ _ _ ?_ ?_
        · intro z134
          exact absurd z134 (of_nn (by omega))
        · intro z134
          refine b_195_138 _ _ _ _ _ _ (by first | (exact hd_9) | assumption) (by omega) (by exact mL_get (by decide)) (by first | (exact hd_I (by omega) rfl) | assumption) (Or.inl (by omega)) (by first | assumption | (exact ix_of (by omega) (by omega)) | (exact ⟨by decide, rfl, by decide⟩)) ?_ ?_
          · intro z138
            refine b_195_162 _ _ _ _ _ _ (by first | (exact hd_9) | assumption) (by omega) (by exact mL_get (by decide)) (by first | (exact hd_I (by omega) rfl) | assumption) (Or.inl (by omega)) (by first | assumption | (exact ix_of (by omega) (by omega)) | (exact ⟨by decide, rfl, by decide⟩)) (by first | (exact hd_9) | assumption) (by omega) ?_
            rw [w8]
            refine IO _ e2 _ _ h2 (by omega) hd' (fun h => ?_) (fun h => ?_)
            · refine b_195_172 _ _ _ ?_ ?_
              · intro z172
                first | (exact absurd z172 (by decide)) | (exact absurd (by decide) z172) | (exact absurd rfl z172) | (exact absurd z172 (of_nn (by omega))) | (exact absurd (of_np (by omega)) z172) | omega
              · intro z172
                refine b_195_175 _ _ _ ?_
                exact K1 (hj1.mpr (Or.inr (hj2.mpr (Or.inl h))))
            · refine b_195_172 _ _ _ ?_ ?_
              · intro z172
                refine b_195_177 _ _ _ _ _ _ (by first | (exact hd_9) | assumption) (by omega) (by exact mL_get (by decide)) (by first | (exact hd_I (by omega) rfl) | assumption) (Or.inl (by omega)) (by first | assumption | (exact ix_of (by omega) (by omega)) | (exact ⟨by decide, rfl, by decide⟩)) ?_ ?_
                · intro z177
                  refine b_195_191 _ _ _ _ _ _ (by first | (exact hd_9) | assumption) (by omega) (by exact mL_get (by decide)) (by first | (exact hd_I (by omega) rfl) | assumption) (Or.inl (by omega)) (by first | assumption | (exact ix_of (by omega) (by omega)) | (exact ⟨by decide, rfl, by decide⟩)) ?_
                  rw [w14 (by decide)]
                  refine g_sum hn hT hxN (by omega) (w13 (by decide)) (w14 (by decide)) M F 0 0 (by omega) rfl (by omega) (fun l4' l5' hl => ?_)
                  rw [Nat.zero_add] at hl
                  refine b_195_253 _ _ _ ?_ ?_
                  · intro z253
                    have hle := Int64.le_iff_toInt_le.mp (lg_le.mp z253)
                    rw [s16] at hle
                    exact h263 (fun g => by have := hl.mpr (hone.mp g); omega) h _ _ _
                  · intro z253
                    have hgt : 16 < l4'.toInt := Int.not_le.mp (fun hle => z253 (lg_le.mpr (Int64.le_iff_toInt_le.mpr (by rw [s16]; exact hle))))
                    refine b_195_261 _ _ _ ?_
                    exact K1 (hj1.mpr (Or.inl (hone.mpr (hl.mp hgt))))
                · intro z177
                  exact absurd (by rw [w0, h8]; rfl) z177
              · intro z172
                first | (exact absurd z172 (by decide)) | (exact absurd (by decide) z172) | (exact absurd rfl z172) | (exact absurd z172 (of_nn (by omega))) | (exact absurd (of_np (by omega)) z172) | omega
          · intro z138
            exact absurd (by rw [w0, h8]; rfl) z138
      · have h8n : ¬ (tb x).1 = 8 := by omega
        have w5 : b.I 513 x = Int32.ofNat (x + 1) := by rw [← hxx]; exact hrow.2.2.2.2.2.1 (by rcases h79 with h | h <;> rw [h] <;> decide)
        have hnb : ¬ mo_bad tb bd x := mo_bad_v (by omega) (by omega) h8n
        have hlv := mo_v_lt _ _ _ hv
        refine b_195_134 _ _ _ ?_ ?_
        · intro z134
          exact absurd z134 (of_nn (by omega))
        · intro z134
          refine b_195_138 _ _ _ _ _ _ (by first | (exact hd_9) | assumption) (by omega) (by exact mL_get (by decide)) (by first | (exact hd_I (by omega) rfl) | assumption) (Or.inl (by omega)) (by first | assumption | (exact ix_of (by omega) (by omega)) | (exact ⟨by decide, rfl, by decide⟩)) ?_ ?_
          · intro z138
            exact absurd ((of_eq (b := 8) (by omega) (by omega)).mp (w0.symm.trans z138)) h8n
          · intro z138
            refine b_195_149 _ _ _ _ _ _ (by first | (exact hd_9) | assumption) (by omega) (by exact mL_get (by decide)) (by first | (exact hd_I (by omega) rfl) | assumption) (Or.inl (by omega)) (by first | assumption | (exact ix_of (by omega) (by omega)) | (exact ⟨by decide, rfl, by decide⟩)) (by first | (exact hd_9) | assumption) (by omega) ?_
            rw [w5]
            refine g_timed hn hT k (x + 1) _ _ _ hv (by omega) (by omega) (fun h => ?_) (fun h => ?_)
            · refine b_195_159 _ _ _ ?_ ?_
              · intro z159
                refine b_195_175 _ _ _ ?_
                first | exact K1 (hj1.mpr (Or.inl (hj0.mpr (Or.inr h)))) | exact K1 (hj1.mpr (Or.inr (hj2.mpr (Or.inl h'))))
              · intro z159
                first | (exact absurd z159 (by decide)) | (exact absurd (by decide) z159) | (exact absurd rfl z159) | (exact absurd z159 (of_nn (by omega))) | (exact absurd (of_np (by omega)) z159) | omega
            · refine b_195_159 _ _ _ ?_ ?_
              · intro z159
                first | (exact absurd z159 (by decide)) | (exact absurd (by decide) z159) | (exact absurd rfl z159) | (exact absurd z159 (of_nn (by omega))) | (exact absurd (of_np (by omega)) z159) | omega
              · intro z159
                refine b_195_162 _ _ _ _ _ _ (by first | (exact hd_9) | assumption) (by omega) (by exact mL_get (by decide)) (by first | (exact hd_I (by omega) rfl) | assumption) (Or.inl (by omega)) (by first | assumption | (exact ix_of (by omega) (by omega)) | (exact ⟨by decide, rfl, by decide⟩)) (by first | (exact hd_9) | assumption) (by omega) ?_
                rw [w8]
                refine IO _ e2 _ _ h2 (by omega) hd' (fun h' => ?_) (fun h' => ?_)
                · refine b_195_172 _ _ _ ?_ ?_
                  · intro z172
                    first | (exact absurd z172 (by decide)) | (exact absurd (by decide) z172) | (exact absurd rfl z172) | (exact absurd z172 (of_nn (by omega))) | (exact absurd (of_np (by omega)) z172) | omega
                  · intro z172
                    refine b_195_175 _ _ _ ?_
                    first | exact K1 (hj1.mpr (Or.inl (hj0.mpr (Or.inr h)))) | exact K1 (hj1.mpr (Or.inr (hj2.mpr (Or.inl h'))))
                · refine b_195_172 _ _ _ ?_ ?_
                  · intro z172
                    refine b_195_177 _ _ _ _ _ _ (by first | (exact hd_9) | assumption) (by omega) (by exact mL_get (by decide)) (by first | (exact hd_I (by omega) rfl) | assumption) (Or.inl (by omega)) (by first | assumption | (exact ix_of (by omega) (by omega)) | (exact ⟨by decide, rfl, by decide⟩)) ?_ ?_
                    · intro z177
                      exact absurd ((of_eq (b := 8) (by omega) (by omega)).mp (w0.symm.trans z177)) h8n
                    · intro z177
                      refine b_195_188 _ _ _ ?_
                      exact h263 (fun g => (hj0.mp g).elim hnb h) h' _ _ _
                  · intro z172
                    first | (exact absurd z172 (by decide)) | (exact absurd (by decide) z172) | (exact absurd rfl z172) | (exact absurd z172 (of_nn (by omega))) | (exact absurd (of_np (by omega)) z172) | omega
theorem g_out (hn : 575 ≤ n) (hT : gTb b N BN tb bd) : ∀ k, gOu n sl f0 b N tb bd k := by
  have hN8 := hT.1.1
  intro k
  induction k with
  | zero =>
    intro m e d Q h
    exact h.elim
  | succ k ih =>
    intro m e d Q h he hd' K1 K0
    obtain ⟨dd, rfl⟩ : ∃ dd, d = dd + 1 := ⟨d - 1, by omega⟩
    have hlt := mo_c_lt _ _ _ h
    have hm : m < N := by omega
    have hix := ix_of (w := m) (m := 800) (by omega) (by omega)
    have hrow := hT.1.2.1 m hm
    rcases h with ⟨h0, h⟩ | ⟨h0, hx, h1, h2⟩ | ⟨h0, hx, h1, h2, h3⟩ | ⟨h0, h1, h2⟩
    · have w0 : b.I 509 m = 0 := by rw [hrow.1, h0]; rfl
      subst h
      rw [mo_any_1] at K0
      refine b_195_0 (t16 := 48) _ _ _ _ _ _ (by first | (exact hd_9) | assumption) (by omega) (by exact mL_get (by decide)) (by first | (exact hd_I (by omega) rfl) | assumption) (Or.inl (by omega)) (by first | assumption | (exact ix_of (by omega) (by omega)) | (exact ⟨by decide, rfl, by decide⟩)) (by rw [w0]; decide +kernel) ?_
      refine b_195_48 _ _ _ ?_
      exact K0 (mo_bad_v (by omega) (by omega) (by omega))
    · have l1 := mo_v_lt _ _ _ h1
      have l2 := mo_c_lt _ _ _ h2
      have hj := mo_any_j (tb := tb) (bd := bd) (a := m) (b := m + 1) (c := e) (by omega) (by omega)
      rw [mo_any_1, mo_any_j (a := m + 1) (b := (tb m).2.2.2.2.2.2.1) (c := e) (by omega) (by omega)] at hj
      have hnb : ¬ mo_bad tb bd m := mo_bad_v (by omega) (by omega) (by omega)
      rcases h0 with h0 | h0 | h0 | h0
      · have w0 : b.I 509 m = 1 := by rw [hrow.1, h0]; rfl
        have w5 : b.I 513 m = Int32.ofNat (m + 1) := by rw [← hx]; exact hrow.2.2.2.2.2.1 (by rw [h0]; decide)
        have w8 : b.I 516 m = Int32.ofNat (tb m).2.2.2.2.2.2.1 := hrow.2.2.2.2.2.2.2.2.1 (by rw [h0]; decide)
        refine b_195_0 (t16 := 50) _ _ _ _ _ _ (by first | (exact hd_9) | assumption) (by omega) (by exact mL_get (by decide)) (by first | (exact hd_I (by omega) rfl) | assumption) (Or.inl (by omega)) (by first | assumption | (exact ix_of (by omega) (by omega)) | (exact ⟨by decide, rfl, by decide⟩)) (by rw [w0]; decide +kernel) ?_
        refine b_195_50 _ _ _ _ _ _ (by first | (exact hd_9) | assumption) (by omega) (by exact mL_get (by decide)) (by first | (exact hd_I (by omega) rfl) | assumption) (Or.inl (by omega)) (by first | assumption | (exact ix_of (by omega) (by omega)) | (exact ⟨by decide, rfl, by decide⟩)) (by first | (exact hd_9) | assumption) (by omega) ?_
        rw [w5]
        refine g_timed hn hT k (m + 1) _ _ _ h1 (by omega) (by omega) (fun h => ?_) (fun h => ?_)
        · refine b_195_60 _ _ _ ?_ ?_
          · intro z60
            refine b_195_76 _ _ _ ?_
            refine b_195_81 _ _ _ (by first | assumption | (exact mL_get (by decide)) | (rw [mL_len]; decide) | (simp only [mL_set]; exact mL_get (by decide)) | (simp only [mL_set, mL_len]; decide) | (exact va_eq) | (exact (va_ne (by omega)).trans (by assumption)) | (exact (va_ne (by omega)).trans va_eq) | (exact (va_ne (by omega)).trans ((va_ne (by omega)).trans (by assumption))) | (exact (va_ne (by omega)).trans ((va_ne (by omega)).trans ((va_ne (by omega)).trans (by assumption)))) | rfl | (exact Or.inl rfl) | (exact Or.inr rfl) | omega | (exact Nat.le_of_ble_eq_true rfl) | decide | (exact ⟨by decide, rfl, by decide⟩)) ?_
            first | exact K1 (hj.mpr (Or.inr (Or.inl h))) | exact K1 (hj.mpr (Or.inr (Or.inr h')))
          · intro z60
            first | (exact absurd z60 (by decide)) | (exact absurd (by decide) z60) | (exact absurd rfl z60) | (exact absurd z60 (of_nn (by omega))) | (exact absurd (of_np (by omega)) z60) | omega
        · refine b_195_60 _ _ _ ?_ ?_
          · intro z60
            first | (exact absurd z60 (by decide)) | (exact absurd (by decide) z60) | (exact absurd rfl z60) | (exact absurd z60 (of_nn (by omega))) | (exact absurd (of_np (by omega)) z60) | omega
          · intro z60
            refine b_195_63 _ _ _ _ _ _ (by first | (exact hd_9) | assumption) (by omega) (by exact mL_get (by decide)) (by first | (exact hd_I (by omega) rfl) | assumption) (Or.inl (by omega)) (by first | assumption | (exact ix_of (by omega) (by omega)) | (exact ⟨by decide, rfl, by decide⟩)) (by first | (exact hd_9) | assumption) (by omega) ?_
            rw [w8]
            refine ih _ e _ _ h2 he (by omega) (fun h' => ?_) (fun h' => ?_)
            · refine b_195_73 _ _ _ ?_ ?_
              · intro z73
                first | (exact absurd z73 (by decide)) | (exact absurd (by decide) z73) | (exact absurd rfl z73) | (exact absurd z73 (of_nn (by omega))) | (exact absurd (of_np (by omega)) z73) | omega
              · intro z73
                refine b_195_76 _ _ _ ?_
                refine b_195_81 _ _ _ (by first | assumption | (exact mL_get (by decide)) | (rw [mL_len]; decide) | (simp only [mL_set]; exact mL_get (by decide)) | (simp only [mL_set, mL_len]; decide) | (exact va_eq) | (exact (va_ne (by omega)).trans (by assumption)) | (exact (va_ne (by omega)).trans va_eq) | (exact (va_ne (by omega)).trans ((va_ne (by omega)).trans (by assumption))) | (exact (va_ne (by omega)).trans ((va_ne (by omega)).trans ((va_ne (by omega)).trans (by assumption)))) | rfl | (exact Or.inl rfl) | (exact Or.inr rfl) | omega | (exact Nat.le_of_ble_eq_true rfl) | decide | (exact ⟨by decide, rfl, by decide⟩)) ?_
                first | exact K1 (hj.mpr (Or.inr (Or.inl h))) | exact K1 (hj.mpr (Or.inr (Or.inr h')))
            · refine b_195_73 _ _ _ ?_ ?_
              · intro z73
                refine b_195_80 _ _ _ ?_
                refine b_195_81 _ _ _ (by first | assumption | (exact mL_get (by decide)) | (rw [mL_len]; decide) | (simp only [mL_set]; exact mL_get (by decide)) | (simp only [mL_set, mL_len]; decide) | (exact va_eq) | (exact (va_ne (by omega)).trans (by assumption)) | (exact (va_ne (by omega)).trans va_eq) | (exact (va_ne (by omega)).trans ((va_ne (by omega)).trans (by assumption))) | (exact (va_ne (by omega)).trans ((va_ne (by omega)).trans ((va_ne (by omega)).trans (by assumption)))) | rfl | (exact Or.inl rfl) | (exact Or.inr rfl) | omega | (exact Nat.le_of_ble_eq_true rfl) | decide | (exact ⟨by decide, rfl, by decide⟩)) ?_
                exact K0 (fun g => (hj.mp g).elim hnb (fun g => g.elim h h'))
              · intro z73
                first | (exact absurd z73 (by decide)) | (exact absurd (by decide) z73) | (exact absurd rfl z73) | (exact absurd z73 (of_nn (by omega))) | (exact absurd (of_np (by omega)) z73) | omega
      · have w0 : b.I 509 m = 2 := by rw [hrow.1, h0]; rfl
        have w5 : b.I 513 m = Int32.ofNat (m + 1) := by rw [← hx]; exact hrow.2.2.2.2.2.1 (by rw [h0]; decide)
        have w8 : b.I 516 m = Int32.ofNat (tb m).2.2.2.2.2.2.1 := hrow.2.2.2.2.2.2.2.2.1 (by rw [h0]; decide)
        refine b_195_0 (t16 := 50) _ _ _ _ _ _ (by first | (exact hd_9) | assumption) (by omega) (by exact mL_get (by decide)) (by first | (exact hd_I (by omega) rfl) | assumption) (Or.inl (by omega)) (by first | assumption | (exact ix_of (by omega) (by omega)) | (exact ⟨by decide, rfl, by decide⟩)) (by rw [w0]; decide +kernel) ?_
        refine b_195_50 _ _ _ _ _ _ (by first | (exact hd_9) | assumption) (by omega) (by exact mL_get (by decide)) (by first | (exact hd_I (by omega) rfl) | assumption) (Or.inl (by omega)) (by first | assumption | (exact ix_of (by omega) (by omega)) | (exact ⟨by decide, rfl, by decide⟩)) (by first | (exact hd_9) | assumption) (by omega) ?_
        rw [w5]
        refine g_timed hn hT k (m + 1) _ _ _ h1 (by omega) (by omega) (fun h => ?_) (fun h => ?_)
        · refine b_195_60 _ _ _ ?_ ?_
          · intro z60
            refine b_195_76 _ _ _ ?_
            refine b_195_81 _ _ _ (by first | assumption | (exact mL_get (by decide)) | (rw [mL_len]; decide) | (simp only [mL_set]; exact mL_get (by decide)) | (simp only [mL_set, mL_len]; decide) | (exact va_eq) | (exact (va_ne (by omega)).trans (by assumption)) | (exact (va_ne (by omega)).trans va_eq) | (exact (va_ne (by omega)).trans ((va_ne (by omega)).trans (by assumption))) | (exact (va_ne (by omega)).trans ((va_ne (by omega)).trans ((va_ne (by omega)).trans (by assumption)))) | rfl | (exact Or.inl rfl) | (exact Or.inr rfl) | omega | (exact Nat.le_of_ble_eq_true rfl) | decide | (exact ⟨by decide, rfl, by decide⟩)) ?_
            first | exact K1 (hj.mpr (Or.inr (Or.inl h))) | exact K1 (hj.mpr (Or.inr (Or.inr h')))
          · intro z60
            first | (exact absurd z60 (by decide)) | (exact absurd (by decide) z60) | (exact absurd rfl z60) | (exact absurd z60 (of_nn (by omega))) | (exact absurd (of_np (by omega)) z60) | omega
        · refine b_195_60 _ _ _ ?_ ?_
          · intro z60
            first | (exact absurd z60 (by decide)) | (exact absurd (by decide) z60) | (exact absurd rfl z60) | (exact absurd z60 (of_nn (by omega))) | (exact absurd (of_np (by omega)) z60) | omega
          · intro z60
            refine b_195_63 _ _ _ _ _ _ (by first | (exact hd_9) | assumption) (by omega) (by exact mL_get (by decide)) (by first | (exact hd_I (by omega) rfl) | assumption) (Or.inl (by omega)) (by first | assumption | (exact ix_of (by omega) (by omega)) | (exact ⟨by decide, rfl, by decide⟩)) (by first | (exact hd_9) | assumption) (by omega) ?_
            rw [w8]
            refine ih _ e _ _ h2 he (by omega) (fun h' => ?_) (fun h' => ?_)
            · refine b_195_73 _ _ _ ?_ ?_
              · intro z73
                first | (exact absurd z73 (by decide)) | (exact absurd (by decide) z73) | (exact absurd rfl z73) | (exact absurd z73 (of_nn (by omega))) | (exact absurd (of_np (by omega)) z73) | omega
              · intro z73
                refine b_195_76 _ _ _ ?_
                refine b_195_81 _ _ _ (by first | assumption | (exact mL_get (by decide)) | (rw [mL_len]; decide) | (simp only [mL_set]; exact mL_get (by decide)) | (simp only [mL_set, mL_len]; decide) | (exact va_eq) | (exact (va_ne (by omega)).trans (by assumption)) | (exact (va_ne (by omega)).trans va_eq) | (exact (va_ne (by omega)).trans ((va_ne (by omega)).trans (by assumption))) | (exact (va_ne (by omega)).trans ((va_ne (by omega)).trans ((va_ne (by omega)).trans (by assumption)))) | rfl | (exact Or.inl rfl) | (exact Or.inr rfl) | omega | (exact Nat.le_of_ble_eq_true rfl) | decide | (exact ⟨by decide, rfl, by decide⟩)) ?_
                first | exact K1 (hj.mpr (Or.inr (Or.inl h))) | exact K1 (hj.mpr (Or.inr (Or.inr h')))
            · refine b_195_73 _ _ _ ?_ ?_
              · intro z73
                refine b_195_80 _ _ _ ?_
                refine b_195_81 _ _ _ (by first | assumption | (exact mL_get (by decide)) | (rw [mL_len]; decide) | (simp only [mL_set]; exact mL_get (by decide)) | (simp only [mL_set, mL_len]; decide) | (exact va_eq) | (exact (va_ne (by omega)).trans (by assumption)) | (exact (va_ne (by omega)).trans va_eq) | (exact (va_ne (by omega)).trans ((va_ne (by omega)).trans (by assumption))) | (exact (va_ne (by omega)).trans ((va_ne (by omega)).trans ((va_ne (by omega)).trans (by assumption)))) | rfl | (exact Or.inl rfl) | (exact Or.inr rfl) | omega | (exact Nat.le_of_ble_eq_true rfl) | decide | (exact ⟨by decide, rfl, by decide⟩)) ?_
                exact K0 (fun g => (hj.mp g).elim hnb (fun g => g.elim h h'))
              · intro z73
                first | (exact absurd z73 (by decide)) | (exact absurd (by decide) z73) | (exact absurd rfl z73) | (exact absurd z73 (of_nn (by omega))) | (exact absurd (of_np (by omega)) z73) | omega
      · have w0 : b.I 509 m = 5 := by rw [hrow.1, h0]; rfl
        have w5 : b.I 513 m = Int32.ofNat (m + 1) := by rw [← hx]; exact hrow.2.2.2.2.2.1 (by rw [h0]; decide)
        have w8 : b.I 516 m = Int32.ofNat (tb m).2.2.2.2.2.2.1 := hrow.2.2.2.2.2.2.2.2.1 (by rw [h0]; decide)
        refine b_195_0 (t16 := 50) _ _ _ _ _ _ (by first | (exact hd_9) | assumption) (by omega) (by exact mL_get (by decide)) (by first | (exact hd_I (by omega) rfl) | assumption) (Or.inl (by omega)) (by first | assumption | (exact ix_of (by omega) (by omega)) | (exact ⟨by decide, rfl, by decide⟩)) (by rw [w0]; decide +kernel) ?_
        refine b_195_50 _ _ _ _ _ _ (by first | (exact hd_9) | assumption) (by omega) (by exact mL_get (by decide)) (by first | (exact hd_I (by omega) rfl) | assumption) (Or.inl (by omega)) (by first | assumption | (exact ix_of (by omega) (by omega)) | (exact ⟨by decide, rfl, by decide⟩)) (by first | (exact hd_9) | assumption) (by omega) ?_
        rw [w5]
        refine g_timed hn hT k (m + 1) _ _ _ h1 (by omega) (by omega) (fun h => ?_) (fun h => ?_)
        · refine b_195_60 _ _ _ ?_ ?_
          · intro z60
            refine b_195_76 _ _ _ ?_
            refine b_195_81 _ _ _ (by first | assumption | (exact mL_get (by decide)) | (rw [mL_len]; decide) | (simp only [mL_set]; exact mL_get (by decide)) | (simp only [mL_set, mL_len]; decide) | (exact va_eq) | (exact (va_ne (by omega)).trans (by assumption)) | (exact (va_ne (by omega)).trans va_eq) | (exact (va_ne (by omega)).trans ((va_ne (by omega)).trans (by assumption))) | (exact (va_ne (by omega)).trans ((va_ne (by omega)).trans ((va_ne (by omega)).trans (by assumption)))) | rfl | (exact Or.inl rfl) | (exact Or.inr rfl) | omega | (exact Nat.le_of_ble_eq_true rfl) | decide | (exact ⟨by decide, rfl, by decide⟩)) ?_
            first | exact K1 (hj.mpr (Or.inr (Or.inl h))) | exact K1 (hj.mpr (Or.inr (Or.inr h')))
          · intro z60
            first | (exact absurd z60 (by decide)) | (exact absurd (by decide) z60) | (exact absurd rfl z60) | (exact absurd z60 (of_nn (by omega))) | (exact absurd (of_np (by omega)) z60) | omega
        · refine b_195_60 _ _ _ ?_ ?_
          · intro z60
            first | (exact absurd z60 (by decide)) | (exact absurd (by decide) z60) | (exact absurd rfl z60) | (exact absurd z60 (of_nn (by omega))) | (exact absurd (of_np (by omega)) z60) | omega
          · intro z60
            refine b_195_63 _ _ _ _ _ _ (by first | (exact hd_9) | assumption) (by omega) (by exact mL_get (by decide)) (by first | (exact hd_I (by omega) rfl) | assumption) (Or.inl (by omega)) (by first | assumption | (exact ix_of (by omega) (by omega)) | (exact ⟨by decide, rfl, by decide⟩)) (by first | (exact hd_9) | assumption) (by omega) ?_
            rw [w8]
            refine ih _ e _ _ h2 he (by omega) (fun h' => ?_) (fun h' => ?_)
            · refine b_195_73 _ _ _ ?_ ?_
              · intro z73
                first | (exact absurd z73 (by decide)) | (exact absurd (by decide) z73) | (exact absurd rfl z73) | (exact absurd z73 (of_nn (by omega))) | (exact absurd (of_np (by omega)) z73) | omega
              · intro z73
                refine b_195_76 _ _ _ ?_
                refine b_195_81 _ _ _ (by first | assumption | (exact mL_get (by decide)) | (rw [mL_len]; decide) | (simp only [mL_set]; exact mL_get (by decide)) | (simp only [mL_set, mL_len]; decide) | (exact va_eq) | (exact (va_ne (by omega)).trans (by assumption)) | (exact (va_ne (by omega)).trans va_eq) | (exact (va_ne (by omega)).trans ((va_ne (by omega)).trans (by assumption))) | (exact (va_ne (by omega)).trans ((va_ne (by omega)).trans ((va_ne (by omega)).trans (by assumption)))) | rfl | (exact Or.inl rfl) | (exact Or.inr rfl) | omega | (exact Nat.le_of_ble_eq_true rfl) | decide | (exact ⟨by decide, rfl, by decide⟩)) ?_
                first | exact K1 (hj.mpr (Or.inr (Or.inl h))) | exact K1 (hj.mpr (Or.inr (Or.inr h')))
            · refine b_195_73 _ _ _ ?_ ?_
              · intro z73
                refine b_195_80 _ _ _ ?_
                refine b_195_81 _ _ _ (by first | assumption | (exact mL_get (by decide)) | (rw [mL_len]; decide) | (simp only [mL_set]; exact mL_get (by decide)) | (simp only [mL_set, mL_len]; decide) | (exact va_eq) | (exact (va_ne (by omega)).trans (by assumption)) | (exact (va_ne (by omega)).trans va_eq) | (exact (va_ne (by omega)).trans ((va_ne (by omega)).trans (by assumption))) | (exact (va_ne (by omega)).trans ((va_ne (by omega)).trans ((va_ne (by omega)).trans (by assumption)))) | rfl | (exact Or.inl rfl) | (exact Or.inr rfl) | omega | (exact Nat.le_of_ble_eq_true rfl) | decide | (exact ⟨by decide, rfl, by decide⟩)) ?_
                exact K0 (fun g => (hj.mp g).elim hnb (fun g => g.elim h h'))
              · intro z73
                first | (exact absurd z73 (by decide)) | (exact absurd (by decide) z73) | (exact absurd rfl z73) | (exact absurd z73 (of_nn (by omega))) | (exact absurd (of_np (by omega)) z73) | omega
      · have w0 : b.I 509 m = 6 := by rw [hrow.1, h0]; rfl
        have w5 : b.I 513 m = Int32.ofNat (m + 1) := by rw [← hx]; exact hrow.2.2.2.2.2.1 (by rw [h0]; decide)
        have w8 : b.I 516 m = Int32.ofNat (tb m).2.2.2.2.2.2.1 := hrow.2.2.2.2.2.2.2.2.1 (by rw [h0]; decide)
        refine b_195_0 (t16 := 50) _ _ _ _ _ _ (by first | (exact hd_9) | assumption) (by omega) (by exact mL_get (by decide)) (by first | (exact hd_I (by omega) rfl) | assumption) (Or.inl (by omega)) (by first | assumption | (exact ix_of (by omega) (by omega)) | (exact ⟨by decide, rfl, by decide⟩)) (by rw [w0]; decide +kernel) ?_
        refine b_195_50 _ _ _ _ _ _ (by first | (exact hd_9) | assumption) (by omega) (by exact mL_get (by decide)) (by first | (exact hd_I (by omega) rfl) | assumption) (Or.inl (by omega)) (by first | assumption | (exact ix_of (by omega) (by omega)) | (exact ⟨by decide, rfl, by decide⟩)) (by first | (exact hd_9) | assumption) (by omega) ?_
        rw [w5]
        refine g_timed hn hT k (m + 1) _ _ _ h1 (by omega) (by omega) (fun h => ?_) (fun h => ?_)
        · refine b_195_60 _ _ _ ?_ ?_
          · intro z60
            refine b_195_76 _ _ _ ?_
            refine b_195_81 _ _ _ (by first | assumption | (exact mL_get (by decide)) | (rw [mL_len]; decide) | (simp only [mL_set]; exact mL_get (by decide)) | (simp only [mL_set, mL_len]; decide) | (exact va_eq) | (exact (va_ne (by omega)).trans (by assumption)) | (exact (va_ne (by omega)).trans va_eq) | (exact (va_ne (by omega)).trans ((va_ne (by omega)).trans (by assumption))) | (exact (va_ne (by omega)).trans ((va_ne (by omega)).trans ((va_ne (by omega)).trans (by assumption)))) | rfl | (exact Or.inl rfl) | (exact Or.inr rfl) | omega | (exact Nat.le_of_ble_eq_true rfl) | decide | (exact ⟨by decide, rfl, by decide⟩)) ?_
            first | exact K1 (hj.mpr (Or.inr (Or.inl h))) | exact K1 (hj.mpr (Or.inr (Or.inr h')))
          · intro z60
            first | (exact absurd z60 (by decide)) | (exact absurd (by decide) z60) | (exact absurd rfl z60) | (exact absurd z60 (of_nn (by omega))) | (exact absurd (of_np (by omega)) z60) | omega
        · refine b_195_60 _ _ _ ?_ ?_
          · intro z60
            first | (exact absurd z60 (by decide)) | (exact absurd (by decide) z60) | (exact absurd rfl z60) | (exact absurd z60 (of_nn (by omega))) | (exact absurd (of_np (by omega)) z60) | omega
          · intro z60
            refine b_195_63 _ _ _ _ _ _ (by first | (exact hd_9) | assumption) (by omega) (by exact mL_get (by decide)) (by first | (exact hd_I (by omega) rfl) | assumption) (Or.inl (by omega)) (by first | assumption | (exact ix_of (by omega) (by omega)) | (exact ⟨by decide, rfl, by decide⟩)) (by first | (exact hd_9) | assumption) (by omega) ?_
            rw [w8]
            refine ih _ e _ _ h2 he (by omega) (fun h' => ?_) (fun h' => ?_)
            · refine b_195_73 _ _ _ ?_ ?_
              · intro z73
                first | (exact absurd z73 (by decide)) | (exact absurd (by decide) z73) | (exact absurd rfl z73) | (exact absurd z73 (of_nn (by omega))) | (exact absurd (of_np (by omega)) z73) | omega
              · intro z73
                refine b_195_76 _ _ _ ?_
                refine b_195_81 _ _ _ (by first | assumption | (exact mL_get (by decide)) | (rw [mL_len]; decide) | (simp only [mL_set]; exact mL_get (by decide)) | (simp only [mL_set, mL_len]; decide) | (exact va_eq) | (exact (va_ne (by omega)).trans (by assumption)) | (exact (va_ne (by omega)).trans va_eq) | (exact (va_ne (by omega)).trans ((va_ne (by omega)).trans (by assumption))) | (exact (va_ne (by omega)).trans ((va_ne (by omega)).trans ((va_ne (by omega)).trans (by assumption)))) | rfl | (exact Or.inl rfl) | (exact Or.inr rfl) | omega | (exact Nat.le_of_ble_eq_true rfl) | decide | (exact ⟨by decide, rfl, by decide⟩)) ?_
                first | exact K1 (hj.mpr (Or.inr (Or.inl h))) | exact K1 (hj.mpr (Or.inr (Or.inr h')))
            · refine b_195_73 _ _ _ ?_ ?_
              · intro z73
                refine b_195_80 _ _ _ ?_
                refine b_195_81 _ _ _ (by first | assumption | (exact mL_get (by decide)) | (rw [mL_len]; decide) | (simp only [mL_set]; exact mL_get (by decide)) | (simp only [mL_set, mL_len]; decide) | (exact va_eq) | (exact (va_ne (by omega)).trans (by assumption)) | (exact (va_ne (by omega)).trans va_eq) | (exact (va_ne (by omega)).trans ((va_ne (by omega)).trans (by assumption))) | (exact (va_ne (by omega)).trans ((va_ne (by omega)).trans ((va_ne (by omega)).trans (by assumption)))) | rfl | (exact Or.inl rfl) | (exact Or.inr rfl) | omega | (exact Nat.le_of_ble_eq_true rfl) | decide | (exact ⟨by decide, rfl, by decide⟩)) ?_
                exact K0 (fun g => (hj.mp g).elim hnb (fun g => g.elim h h'))
              · intro z73
                first | (exact absurd z73 (by decide)) | (exact absurd (by decide) z73) | (exact absurd rfl z73) | (exact absurd z73 (of_nn (by omega))) | (exact absurd (of_np (by omega)) z73) | omega
    · have l1 := mo_v_lt _ _ _ h1
      have l2 := mo_c_lt _ _ _ h2
      have l3 := mo_c_lt _ _ _ h3
      have hj := mo_any_j (tb := tb) (bd := bd) (a := m) (b := m + 1) (c := e) (by omega) (by omega)
      rw [mo_any_1, mo_any_j (a := m + 1) (b := (tb m).2.2.2.2.2.2.1) (c := e) (by omega) (by omega), mo_any_j (a := (tb m).2.2.2.2.2.2.1) (b := (tb m).2.2.2.2.2.2.2.1) (c := e) (by omega) (by omega)] at hj
      have hnb : ¬ mo_bad tb bd m := mo_bad_v (by omega) (by omega) (by omega)
      have w0 : b.I 509 m = 3 := by rw [hrow.1, h0]; rfl
      have w5 : b.I 513 m = Int32.ofNat (m + 1) := by rw [← hx]; exact hrow.2.2.2.2.2.1 (by rw [h0]; decide)
      have w9 : b.I 510 m = Int32.ofNat (tb m).2.2.2.2.2.2.1 := hrow.2.2.2.2.2.2.2.2.2.1 (by rw [h0]; decide)
      have w11 : b.I 511 m = Int32.ofNat (tb m).2.2.2.2.2.2.2.1 := hrow.2.2.2.2.2.2.2.2.2.2.2.1 (by rw [h0]; decide)
      refine b_195_0 (t16 := 82) _ _ _ _ _ _ (by first | (exact hd_9) | assumption) (by omega) (by exact mL_get (by decide)) (by first | (exact hd_I (by omega) rfl) | assumption) (Or.inl (by omega)) (by first | assumption | (exact ix_of (by omega) (by omega)) | (exact ⟨by decide, rfl, by decide⟩)) (by rw [w0]; decide +kernel) ?_
      refine b_195_82 _ _ _ _ _ _ (by first | (exact hd_9) | assumption) (by omega) (by exact mL_get (by decide)) (by first | (exact hd_I (by omega) rfl) | assumption) (Or.inl (by omega)) (by first | assumption | (exact ix_of (by omega) (by omega)) | (exact ⟨by decide, rfl, by decide⟩)) (by first | (exact hd_9) | assumption) (by omega) ?_
      rw [w5]
      refine g_timed hn hT k (m + 1) _ _ _ h1 (by omega) (by omega) (fun h => ?_) (fun h => ?_)
      · refine b_195_92 _ _ _ ?_ ?_
        · intro z92
          refine b_195_121 _ _ _ ?_
          refine b_195_126 _ _ _ (by first | assumption | (exact mL_get (by decide)) | (rw [mL_len]; decide) | (simp only [mL_set]; exact mL_get (by decide)) | (simp only [mL_set, mL_len]; decide) | (exact va_eq) | (exact (va_ne (by omega)).trans (by assumption)) | (exact (va_ne (by omega)).trans va_eq) | (exact (va_ne (by omega)).trans ((va_ne (by omega)).trans (by assumption))) | (exact (va_ne (by omega)).trans ((va_ne (by omega)).trans ((va_ne (by omega)).trans (by assumption)))) | rfl | (exact Or.inl rfl) | (exact Or.inr rfl) | omega | (exact Nat.le_of_ble_eq_true rfl) | decide | (exact ⟨by decide, rfl, by decide⟩)) ?_
          first | exact K1 (hj.mpr (Or.inr (Or.inl h))) | exact K1 (hj.mpr (Or.inr (Or.inr (Or.inl h')))) | exact K1 (hj.mpr (Or.inr (Or.inr (Or.inr h''))))
        · intro z92
          first | (exact absurd z92 (by decide)) | (exact absurd (by decide) z92) | (exact absurd rfl z92) | (exact absurd z92 (of_nn (by omega))) | (exact absurd (of_np (by omega)) z92) | omega
      · refine b_195_92 _ _ _ ?_ ?_
        · intro z92
          first | (exact absurd z92 (by decide)) | (exact absurd (by decide) z92) | (exact absurd rfl z92) | (exact absurd z92 (of_nn (by omega))) | (exact absurd (of_np (by omega)) z92) | omega
        · intro z92
          refine b_195_95 _ _ _ _ _ _ (by first | (exact hd_9) | assumption) (by omega) (by exact mL_get (by decide)) (by first | (exact hd_I (by omega) rfl) | assumption) (Or.inl (by omega)) (by first | assumption | (exact ix_of (by omega) (by omega)) | (exact ⟨by decide, rfl, by decide⟩)) (by first | (exact hd_9) | assumption) (by omega) ?_
          rw [w9]
          refine ih _ _ _ _ h2 (by omega) (by omega) (fun h' => ?_) (fun h' => ?_)
          · refine b_195_105 _ _ _ ?_ ?_
            · intro z105
              refine b_195_121 _ _ _ ?_
              refine b_195_126 _ _ _ (by first | assumption | (exact mL_get (by decide)) | (rw [mL_len]; decide) | (simp only [mL_set]; exact mL_get (by decide)) | (simp only [mL_set, mL_len]; decide) | (exact va_eq) | (exact (va_ne (by omega)).trans (by assumption)) | (exact (va_ne (by omega)).trans va_eq) | (exact (va_ne (by omega)).trans ((va_ne (by omega)).trans (by assumption))) | (exact (va_ne (by omega)).trans ((va_ne (by omega)).trans ((va_ne (by omega)).trans (by assumption)))) | rfl | (exact Or.inl rfl) | (exact Or.inr rfl) | omega | (exact Nat.le_of_ble_eq_true rfl) | decide | (exact ⟨by decide, rfl, by decide⟩)) ?_
              first | exact K1 (hj.mpr (Or.inr (Or.inl h))) | exact K1 (hj.mpr (Or.inr (Or.inr (Or.inl h')))) | exact K1 (hj.mpr (Or.inr (Or.inr (Or.inr h''))))
            · intro z105
              first | (exact absurd z105 (by decide)) | (exact absurd (by decide) z105) | (exact absurd rfl z105) | (exact absurd z105 (of_nn (by omega))) | (exact absurd (of_np (by omega)) z105) | omega
          · refine b_195_105 _ _ _ ?_ ?_
            · intro z105
              first | (exact absurd z105 (by decide)) | (exact absurd (by decide) z105) | (exact absurd rfl z105) | (exact absurd z105 (of_nn (by omega))) | (exact absurd (of_np (by omega)) z105) | omega
            · intro z105
              refine b_195_108 _ _ _ _ _ _ (by first | (exact hd_9) | assumption) (by omega) (by exact mL_get (by decide)) (by first | (exact hd_I (by omega) rfl) | assumption) (Or.inl (by omega)) (by first | assumption | (exact ix_of (by omega) (by omega)) | (exact ⟨by decide, rfl, by decide⟩)) (by first | (exact hd_9) | assumption) (by omega) ?_
              rw [w11]
              refine ih _ e _ _ h3 he (by omega) (fun h'' => ?_) (fun h'' => ?_)
              · refine b_195_118 _ _ _ ?_ ?_
                · intro z118
                  first | (exact absurd z118 (by decide)) | (exact absurd (by decide) z118) | (exact absurd rfl z118) | (exact absurd z118 (of_nn (by omega))) | (exact absurd (of_np (by omega)) z118) | omega
                · intro z118
                  refine b_195_121 _ _ _ ?_
                  refine b_195_126 _ _ _ (by first | assumption | (exact mL_get (by decide)) | (rw [mL_len]; decide) | (simp only [mL_set]; exact mL_get (by decide)) | (simp only [mL_set, mL_len]; decide) | (exact va_eq) | (exact (va_ne (by omega)).trans (by assumption)) | (exact (va_ne (by omega)).trans va_eq) | (exact (va_ne (by omega)).trans ((va_ne (by omega)).trans (by assumption))) | (exact (va_ne (by omega)).trans ((va_ne (by omega)).trans ((va_ne (by omega)).trans (by assumption)))) | rfl | (exact Or.inl rfl) | (exact Or.inr rfl) | omega | (exact Nat.le_of_ble_eq_true rfl) | decide | (exact ⟨by decide, rfl, by decide⟩)) ?_
                  first | exact K1 (hj.mpr (Or.inr (Or.inl h))) | exact K1 (hj.mpr (Or.inr (Or.inr (Or.inl h')))) | exact K1 (hj.mpr (Or.inr (Or.inr (Or.inr h''))))
              · refine b_195_118 _ _ _ ?_ ?_
                · intro z118
                  refine b_195_125 _ _ _ ?_
                  refine b_195_126 _ _ _ (by first | assumption | (exact mL_get (by decide)) | (rw [mL_len]; decide) | (simp only [mL_set]; exact mL_get (by decide)) | (simp only [mL_set, mL_len]; decide) | (exact va_eq) | (exact (va_ne (by omega)).trans (by assumption)) | (exact (va_ne (by omega)).trans va_eq) | (exact (va_ne (by omega)).trans ((va_ne (by omega)).trans (by assumption))) | (exact (va_ne (by omega)).trans ((va_ne (by omega)).trans ((va_ne (by omega)).trans (by assumption)))) | rfl | (exact Or.inl rfl) | (exact Or.inr rfl) | omega | (exact Nat.le_of_ble_eq_true rfl) | decide | (exact ⟨by decide, rfl, by decide⟩)) ?_
                  exact K0 (fun g => (hj.mp g).elim hnb (fun g => g.elim h (fun g => g.elim h' h'')))
                · intro z118
                  first | (exact absurd z118 (by decide)) | (exact absurd (by decide) z118) | (exact absurd rfl z118) | (exact absurd z118 (of_nn (by omega))) | (exact absurd (of_np (by omega)) z118) | omega
    · have l1 := mo_a_le (mo_v_lt k) (mo_c_lt k) _ _ _ _ h1
      have l2 := mo_c_lt _ _ _ h2
      have hj := mo_any_j (tb := tb) (bd := bd) (a := m) (b := m + 1) (c := e) (by omega) (by omega)
      rw [mo_any_1, mo_any_j (a := m + 1) (b := (tb m).2.2.2.2.2.2.1) (c := e) (by omega) (by omega)] at hj
      have hnb : ¬ mo_bad tb bd m := mo_bad_v (by omega) (by omega) (by omega)
      have w0 : b.I 509 m = 4 := by rw [hrow.1, h0]; rfl
      have w7 : b.I 514 m = mz_lk (tb m).2.2.2.2.2.1 := hrow.2.2.2.2.2.2.2.1 (by rw [h0]; decide)
      have w8 : b.I 516 m = Int32.ofNat (tb m).2.2.2.2.2.2.1 := hrow.2.2.2.2.2.2.2.2.1 (by rw [h0]; decide)
      refine b_195_0 (t16 := 127) _ _ _ _ _ _ (by first | (exact hd_9) | assumption) (by omega) (by exact mL_get (by decide)) (by first | (exact hd_I (by omega) rfl) | assumption) (Or.inl (by omega)) (by first | assumption | (exact ix_of (by omega) (by omega)) | (exact ⟨by decide, rfl, by decide⟩)) (by rw [w0]; decide +kernel) ?_
      refine b_195_127 _ _ _ _ _ _ (by first | (exact hd_9) | assumption) (by omega) (by exact mL_get (by decide)) (by first | (exact hd_I (by omega) rfl) | assumption) (Or.inl (by omega)) (by first | assumption | (exact ix_of (by omega) (by omega)) | (exact ⟨by decide, rfl, by decide⟩)) ?_
      rw [w7]
      refine g_oact hn hT ih (by omega) 8 _ _ _ _ _ _ h1 (by omega) (fun h => K1 (hj.mpr (Or.inr (Or.inl h)))) (fun h l3 o4 o5 o6 => ?_)
      refine b_195_273 _ _ _ _ _ _ (by first | (exact hd_9) | assumption) (by omega) (by exact mL_get (by decide)) (by first | (exact hd_I (by omega) rfl) | assumption) (Or.inl (by omega)) (by first | assumption | (exact ix_of (by omega) (by omega)) | (exact ⟨by decide, rfl, by decide⟩)) (by first | (exact hd_9) | assumption) (by omega) ?_
      rw [w8]
      refine ih _ e _ _ h2 he (by omega) (fun h' => ?_) (fun h' => ?_)
      · refine b_195_283 _ _ _ (by first | assumption | (exact mL_get (by decide)) | (rw [mL_len]; decide) | (simp only [mL_set]; exact mL_get (by decide)) | (simp only [mL_set, mL_len]; decide) | (exact va_eq) | (exact (va_ne (by omega)).trans (by assumption)) | (exact (va_ne (by omega)).trans va_eq) | (exact (va_ne (by omega)).trans ((va_ne (by omega)).trans (by assumption))) | (exact (va_ne (by omega)).trans ((va_ne (by omega)).trans ((va_ne (by omega)).trans (by assumption)))) | rfl | (exact Or.inl rfl) | (exact Or.inr rfl) | omega | (exact Nat.le_of_ble_eq_true rfl) | decide | (exact ⟨by decide, rfl, by decide⟩)) ?_
        exact K1 (hj.mpr (Or.inr (Or.inr h')))
      · refine b_195_283 _ _ _ (by first | assumption | (exact mL_get (by decide)) | (rw [mL_len]; decide) | (simp only [mL_set]; exact mL_get (by decide)) | (simp only [mL_set, mL_len]; decide) | (exact va_eq) | (exact (va_ne (by omega)).trans (by assumption)) | (exact (va_ne (by omega)).trans va_eq) | (exact (va_ne (by omega)).trans ((va_ne (by omega)).trans (by assumption))) | (exact (va_ne (by omega)).trans ((va_ne (by omega)).trans ((va_ne (by omega)).trans (by assumption)))) | rfl | (exact Or.inl rfl) | (exact Or.inr rfl) | omega | (exact Nat.le_of_ble_eq_true rfl) | decide | (exact ⟨by decide, rfl, by decide⟩)) ?_
        exact K0 (fun g => (hj.mp g).elim hnb (fun g => g.elim h h'))
end
