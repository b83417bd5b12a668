/-! the first object's scanner: the next token; what is fed; octets that no text may have -/
section
variable {a : mh_A} {t : ms_T} {s l l0 kk : Int32} {v : Int64}
theorem mh_tk_f (h1 : s = Int32.ofNat t.a) (h2 : l = Int32.ofNat (t.b - t.a)) (h3 : kk = Int32.ofNat t.k) : ((a.sI 1 1 3 s).sI 1 1 4 l).sI 1 1 2 kk = mh_tk a t (a.L 1 1 5) := by
  subst h1 h2 h3
  unfold mh_tk
  refine Prod.ext (funext fun c => funext fun p => funext fun i => ?_) (Prod.ext (funext fun c => funext fun p => funext fun i => ?_) rfl)
  · by_cases h1 : c = 1 <;> by_cases h2 : p = 1 <;> by_cases h3 : i = 2 <;> by_cases h4 : i = 3 <;> by_cases h5 : i = 4 <;> by_cases h6 : i = 5 <;> simp_all [mh_A.sI, mh_A.sL, mh_A.I, mh_A.L, mh_u]
  · by_cases h1 : c = 1 <;> by_cases h2 : p = 1 <;> by_cases h3 : i = 2 <;> by_cases h4 : i = 3 <;> by_cases h5 : i = 4 <;> by_cases h6 : i = 5 <;> simp_all [mh_A.sI, mh_A.sL, mh_A.I, mh_A.L, mh_u]
theorem mh_tk_w (h1 : s = Int32.ofNat t.a) (h2 : l = Int32.ofNat (t.b - t.a)) (h3 : kk = Int32.ofNat t.k) : (((a.sI 1 1 3 s).sI 1 1 4 l0).sI 1 1 4 l).sI 1 1 2 kk = mh_tk a t (a.L 1 1 5) := by
  subst h1 h2 h3
  unfold mh_tk
  refine Prod.ext (funext fun c => funext fun p => funext fun i => ?_) (Prod.ext (funext fun c => funext fun p => funext fun i => ?_) rfl)
  · by_cases h1 : c = 1 <;> by_cases h2 : p = 1 <;> by_cases h3 : i = 2 <;> by_cases h4 : i = 3 <;> by_cases h5 : i = 4 <;> by_cases h6 : i = 5 <;> simp_all [mh_A.sI, mh_A.sL, mh_A.I, mh_A.L, mh_u]
  · by_cases h1 : c = 1 <;> by_cases h2 : p = 1 <;> by_cases h3 : i = 2 <;> by_cases h4 : i = 3 <;> by_cases h5 : i = 4 <;> by_cases h6 : i = 5 <;> simp_all [mh_A.sI, mh_A.sL, mh_A.I, mh_A.L, mh_u]
theorem mh_tk_s (h1 : s = Int32.ofNat t.a) (h2 : l = Int32.ofNat (t.b - t.a)) (h3 : kk = Int32.ofNat t.k) : (((a.sI 1 1 3 s).sI 1 1 4 l0).sI 1 1 2 kk).sI 1 1 4 l = mh_tk a t (a.L 1 1 5) := by
  subst h1 h2 h3
  unfold mh_tk
  refine Prod.ext (funext fun c => funext fun p => funext fun i => ?_) (Prod.ext (funext fun c => funext fun p => funext fun i => ?_) rfl)
  · by_cases h1 : c = 1 <;> by_cases h2 : p = 1 <;> by_cases h3 : i = 2 <;> by_cases h4 : i = 3 <;> by_cases h5 : i = 4 <;> by_cases h6 : i = 5 <;> simp_all [mh_A.sI, mh_A.sL, mh_A.I, mh_A.L, mh_u]
  · by_cases h1 : c = 1 <;> by_cases h2 : p = 1 <;> by_cases h3 : i = 2 <;> by_cases h4 : i = 3 <;> by_cases h5 : i = 4 <;> by_cases h6 : i = 5 <;> simp_all [mh_A.sI, mh_A.sL, mh_A.I, mh_A.L, mh_u]
theorem mh_tk_n (h1 : s = Int32.ofNat t.a) (h2 : l = Int32.ofNat (t.b - t.a)) (h3 : kk = Int32.ofNat t.k) : ((((a.sI 1 1 3 s).sI 1 1 4 l0).sI 1 1 4 l).sI 1 1 2 kk).sL 1 1 5 v = mh_tk a t v := by
  subst h1 h2 h3
  unfold mh_tk
  refine Prod.ext (funext fun c => funext fun p => funext fun i => ?_) (Prod.ext (funext fun c => funext fun p => funext fun i => ?_) rfl)
  · by_cases h1 : c = 1 <;> by_cases h2 : p = 1 <;> by_cases h3 : i = 2 <;> by_cases h4 : i = 3 <;> by_cases h5 : i = 4 <;> by_cases h6 : i = 5 <;> simp_all [mh_A.sI, mh_A.sL, mh_A.I, mh_A.L, mh_u]
  · by_cases h1 : c = 1 <;> by_cases h2 : p = 1 <;> by_cases h3 : i = 2 <;> by_cases h4 : i = 3 <;> by_cases h5 : i = 4 <;> by_cases h6 : i = 5 <;> simp_all [mh_A.sI, mh_A.sL, mh_A.I, mh_A.L, mh_u]
end
section
variable {d n sl : Nat} {a : mh_A} {f0 : Nat → mi_C} {Q : (Option Value ⊕ Nat) → mi_H → Prop} {g : Nat → Int32} {L k p : Nat}
theorem ms_k37' (h : ms_ky g k p 24 0 = 37) : False := by
  rcases ms_ky_is (g := g) (a := k) (b := p) 24 0 with h' | h' <;> omega
theorem cs_adv46 (hn : 575 ≤ n) (hK : mc_K n f0) (hL : a.I 1 1 6 = Int32.ofNat L) (h8 : L ≤ 8192) (hg : ∀ k, k < L → a.AI 1 1 0 k = g k) (hk : k ≤ L) (K : ∀ v, ((ms_tk g L k).k = 37 → v = (ms_tk g L k).v) → Q (.inl none) (n, sl, hc (mh_tk a (ms_tk g L k) v) f0)) : mi_W (d + 6) 24 46 [some (.ref 1), some (.int (Int32.ofNat k))] [] (n, sl, hc a f0) Q := by
  have Kw : ∀ A' v, A' = mh_tk a (ms_tk g L k) v → ((ms_tk g L k).k = 37 → v = (ms_tk g L k).v) → Q (.inl none) (n, sl, hc A' f0) := by
    rintro _ v rfl h
    exact K v h
  have hx0 := ix_of (w := k) (m := 8200) (by omega) (by omega)
  refine b_24_46 _ _ _ (by first | (exact hc_o (by first | assumption | (exact ⟨by decide, rfl⟩))) | assumption | (exact (hc_far (by omega)).trans (by assumption))) (by omega) (Nat.le_of_ble_eq_true rfl) (by first | (exact (congrFun (hw_I (by first | assumption | (exact ⟨by decide, rfl⟩)) (by decide)) _).trans (hc_o (by first | assumption | (exact ⟨by decide, rfl⟩)))) | assumption | (exact (hc_far (by omega)).trans (by assumption))) (by omega) (Nat.le_of_ble_eq_true rfl) (by first | (exact (congrFun (hw_2 (hw_I (by first | assumption | (exact ⟨by decide, rfl⟩)) (by decide)) (hw_I (by first | assumption | (exact ⟨by decide, rfl⟩)) (by decide))) _).trans (hc_o (by first | assumption | (exact ⟨by decide, rfl⟩)))) | assumption | (exact (hc_far (by omega)).trans (by assumption))) (by omega) (by first | rfl | assumption) ?_ ?_
  · intro z46
    refine hw_W (hw_2 (hw_I (by first | assumption | (exact ⟨by decide, rfl⟩)) (by decide)) (hw_I (by first | assumption | (exact ⟨by decide, rfl⟩)) (by decide))) ?_
    have hkL : k < L := (i_lt rfl hL (by omega) (by omega)).mp z46
    refine b_24_73 _ _ _ _ _ _ (by first | (exact hc_o (by first | assumption | (exact ⟨by decide, rfl⟩))) | assumption | (exact (hc_far (by omega)).trans (by assumption))) (by omega) (by first | rfl | assumption) (by first | (exact hc_ai (by omega) (by first | assumption | (exact (ht9 (by assumption)).2.1) | (exact (ht9 (by assumption)).2.2.1) | (exact (ht9 (by assumption)).2.2.2) | rfl) (by decide)) | assumption | (exact (hc_far (by omega)).trans (by assumption))) (by omega) (by first | assumption | (exact ix_of (by omega) (by omega)) | (exact ⟨by decide, rfl, by decide⟩)) ?_
    refine cs_let (fun hl => ?_) (fun hl => ?_)
    · have hl : mr_lt (ms_c g L k) := by rw [ms_c_lt hkL, ← hg k hkL]; exact hl
      have et : ms_tk g L k = (ms_ky g k (ms_wd g L 16 k) 24 0, k, ms_wd g L 16 k, 0) := by unfold ms_tk; rw [if_neg (by omega), if_pos hl]
      have hwd := ms_wd_le (g := g) (L := L) 16 k hk
      have hw : ∀ i, i < ms_wd g L 16 k - k → ¬ g (k + i) = 32 := by
        intro i hi h
        have := ms_wd_in (g := g) (L := L) 16 k (k + i) (by omega) (by omega)
        rw [ms_c_lt (by omega), h] at this
        exact absurd this (by decide)
      refine b_24_82 _ _ _ ?_ ?_
      · intro z82
        first | (exact absurd z82 (by decide)) | (exact absurd (by decide) z82) | (exact absurd rfl z82) | (exact absurd z82 (of_nn (by omega))) | (exact absurd (of_np (by omega)) z82) | omega
      · intro z82
        refine b_24_85 _ _ _ (by first | (exact hc_o (by first | assumption | (exact ⟨by decide, rfl⟩))) | assumption | (exact (hc_far (by omega)).trans (by assumption))) (by omega) ?_
        refine cs_word hn hL h8 hg rfl hk ?_
        refine b_24_89 _ _ _ (by first | (exact hc_o (by first | assumption | (exact ⟨by decide, rfl⟩))) | assumption | (exact (hc_far (by omega)).trans (by assumption))) (by omega) ?_
        refine cs_key hn hK h8 hg rfl rfl hwd.1 hwd.2.2 hw ?_
        refine b_24_94 _ _ _ (by first | (exact hc_o (by first | assumption | (exact ⟨by decide, rfl⟩))) | assumption | (exact (hc_far (by omega)).trans (by assumption))) (by omega) (Nat.le_of_ble_eq_true rfl) ?_
        refine hw_W (hw_I (by first | assumption | (exact ⟨by decide, rfl⟩)) (by decide)) ?_
        refine b_24_140 _ _ _ ?_
        first
          | (refine Kw _ _ (mh_tk_w ?_ ?_ ?_) ?_
             · rw [et]
               rfl
             · rw [et]
               rfl
             · rw [et]
               rfl
             · rw [et]
               exact fun h => (ms_k37' h).elim)
          | (refine Kw _ _ (mh_tk_n ?_ ?_ ?_) ?_
             · rw [et]
               rfl
             · rw [et]
               rfl
             · rw [et]
               rfl
             · rw [et]
               intro _
               first | (rw [if_neg h45]; exact rfl) | (rw [if_pos h45]; exact rfl))
          | (refine Kw _ _ (mh_tk_s ?_ ?_ ?_) ?_
             · rw [et]
               rfl
             · rw [et]
               show _ = Int32.ofNat ((if _ then k + 2 else k + 1) - k)
               split
               · rw [show k + 2 - k = 2 by omega]
                 rfl
               · rw [show k + 1 - k = 1 by omega]
                 rfl
             · rw [et]
               rfl
             · rw [et]
               exact fun h => absurd h ms_sg_r.2.2.1)
          | (refine Kw _ _ (mh_tk_f ?_ ?_ ?_) ?_
             · rw [et]
               rfl
             · rw [et]
               exact (congrArg Int32.ofNat (Nat.sub_self k)).symm
             · rw [et]
               rfl
             · rw [et]
               exact fun h => absurd (show 39 = 37 from h) (by decide))
    · have hl : ¬ mr_lt (ms_c g L k) := by rw [ms_c_lt hkL, ← hg k hkL]; exact hl
      refine b_24_82 _ _ _ ?_ ?_
      · intro z82
        refine b_24_100 _ _ _ (by first | (exact hc_o (by first | assumption | (exact ⟨by decide, rfl⟩))) | assumption | (exact (hc_far (by omega)).trans (by assumption))) (by omega) ?_
        refine cs_dig hn hL h8 hg (by omega) (fun hd => ?_) (fun hd => ?_)
        · have h45 : ¬ g k = 45 := by
            intro h
            rw [ms_c_lt hkL, h] at hd
            exact absurd hd (by decide)
          have et : ms_tk g L k = (37, k, (ms_nm g L 17 k 0).1, (ms_nm g L 17 k 0).2) := by unfold ms_tk; rw [if_neg (by omega), if_neg hl, if_pos hd]
          have hf : (g k = 45 ∧ k = k + 1) ∨ (¬ g k = 45 ∧ k = k) := Or.inr ⟨h45, rfl⟩
          have hkf : k ≤ L := hk
          refine b_24_105 _ _ _ ?_ ?_
          · intro z105
            refine b_24_129 _ _ _ (by first | (exact hc_o (by first | assumption | (exact ⟨by decide, rfl⟩))) | assumption | (exact (hc_far (by omega)).trans (by assumption))) (by omega) ?_
            refine cs_num hn hL h8 hg rfl hkL hf hkf ?_
            refine b_24_133 _ _ _ ?_
            refine b_24_140 _ _ _ ?_
            first
              | (refine Kw _ _ (mh_tk_w ?_ ?_ ?_) ?_
                 · rw [et]
                   rfl
                 · rw [et]
                   rfl
                 · rw [et]
                   rfl
                 · rw [et]
                   exact fun h => (ms_k37' h).elim)
              | (refine Kw _ _ (mh_tk_n ?_ ?_ ?_) ?_
                 · rw [et]
                   rfl
                 · rw [et]
                   rfl
                 · rw [et]
                   rfl
                 · rw [et]
                   intro _
                   first | (rw [if_neg h45]; exact rfl) | (rw [if_pos h45]; exact rfl))
              | (refine Kw _ _ (mh_tk_s ?_ ?_ ?_) ?_
                 · rw [et]
                   rfl
                 · rw [et]
                   show _ = Int32.ofNat ((if _ then k + 2 else k + 1) - k)
                   split
                   · rw [show k + 2 - k = 2 by omega]
                     rfl
                   · rw [show k + 1 - k = 1 by omega]
                     rfl
                 · rw [et]
                   rfl
                 · rw [et]
                   exact fun h => absurd h ms_sg_r.2.2.1)
              | (refine Kw _ _ (mh_tk_f ?_ ?_ ?_) ?_
                 · rw [et]
                   rfl
                 · rw [et]
                   exact (congrArg Int32.ofNat (Nat.sub_self k)).symm
                 · rw [et]
                   rfl
                 · rw [et]
                   exact fun h => absurd (show 39 = 37 from h) (by decide))
          · intro z105
            first | (exact absurd z105 (by decide)) | (exact absurd (by decide) z105) | (exact absurd rfl z105) | (exact absurd z105 (of_nn (by omega))) | (exact absurd (of_np (by omega)) z105) | omega
        · refine b_24_105 _ _ _ ?_ ?_
          · intro z105
            first | (exact absurd z105 (by decide)) | (exact absurd (by decide) z105) | (exact absurd rfl z105) | (exact absurd z105 (of_nn (by omega))) | (exact absurd (of_np (by omega)) z105) | omega
          · intro z105
            refine b_24_108 _ _ _ _ _ _ (by first | (exact hc_o (by first | assumption | (exact ⟨by decide, rfl⟩))) | assumption | (exact (hc_far (by omega)).trans (by assumption))) (by omega) (by first | rfl | assumption) (by first | (exact hc_ai (by omega) (by first | assumption | (exact (ht9 (by assumption)).2.1) | (exact (ht9 (by assumption)).2.2.1) | (exact (ht9 (by assumption)).2.2.2) | rfl) (by decide)) | assumption | (exact (hc_far (by omega)).trans (by assumption))) (by omega) (by first | assumption | (exact ix_of (by omega) (by omega)) | (exact ⟨by decide, rfl, by decide⟩)) ?_ ?_
            · intro z108
              have es : ms_tk g L k = (ms_sg (g k) (ms_c g L (k + 1)), k, if (g k = 60 ∨ g k = 62) ∧ ms_c g L (k + 1) = 61 then k + 2 else k + 1, 0) := by
                unfold ms_tk
                rw [if_neg (by omega), if_neg hl, if_neg hd, ms_c_lt hkL, if_neg (fun h => z108 ((hg k hkL).trans h.1))]
              have et := es
              refine b_24_136 _ _ _ (by first | (exact hc_o (by first | assumption | (exact ⟨by decide, rfl⟩))) | assumption | (exact (hc_far (by omega)).trans (by assumption))) (by omega) ?_
              refine cs_sign hn hL h8 hg rfl hkL ?_
              refine b_24_140 _ _ _ ?_
              first
                | (refine Kw _ _ (mh_tk_w ?_ ?_ ?_) ?_
                   · rw [et]
                     rfl
                   · rw [et]
                     rfl
                   · rw [et]
                     rfl
                   · rw [et]
                     exact fun h => (ms_k37' h).elim)
                | (refine Kw _ _ (mh_tk_n ?_ ?_ ?_) ?_
                   · rw [et]
                     rfl
                   · rw [et]
                     rfl
                   · rw [et]
                     rfl
                   · rw [et]
                     intro _
                     first | (rw [if_neg h45]; exact rfl) | (rw [if_pos h45]; exact rfl))
                | (refine Kw _ _ (mh_tk_s ?_ ?_ ?_) ?_
                   · rw [et]
                     rfl
                   · rw [et]
                     show _ = Int32.ofNat ((if _ then k + 2 else k + 1) - k)
                     split
                     · rw [show k + 2 - k = 2 by omega]
                       rfl
                     · rw [show k + 1 - k = 1 by omega]
                       rfl
                   · rw [et]
                     rfl
                   · rw [et]
                     exact fun h => absurd h ms_sg_r.2.2.1)
                | (refine Kw _ _ (mh_tk_f ?_ ?_ ?_) ?_
                   · rw [et]
                     rfl
                   · rw [et]
                     exact (congrArg Int32.ofNat (Nat.sub_self k)).symm
                   · rw [et]
                     rfl
                   · rw [et]
                     exact fun h => absurd (show 39 = 37 from h) (by decide))
            · intro z108
              have h45 : g k = 45 := (hg k hkL).symm.trans (Classical.not_not.mp z108)
              refine b_24_119 _ _ _ (by first | (exact hc_o (by first | assumption | (exact ⟨by decide, rfl⟩))) | assumption | (exact (hc_far (by omega)).trans (by assumption))) (by omega) ?_
              rw [of_succ]
              refine cs_dig hn hL h8 hg (by omega) (fun hd2 => ?_) (fun hd2 => ?_)
              · have et : ms_tk g L k = (37, k, (ms_nm g L 17 (k + 1) 0).1, -(ms_nm g L 17 (k + 1) 0).2) := by unfold ms_tk; rw [if_neg (by omega), if_neg hl, if_neg hd, if_pos ⟨by rw [ms_c_lt hkL]; exact h45, hd2⟩]
                have hk1 : k + 1 < L := ms_lt_L (P := mr_dg) ms_0.2 hd2
                have hf : (g k = 45 ∧ k + 1 = k + 1) ∨ (¬ g k = 45 ∧ k + 1 = k) := Or.inl ⟨h45, rfl⟩
                have hkf : k + 1 ≤ L := by omega
                refine b_24_126 _ _ _ ?_ ?_
                · intro z126
                  first | (exact absurd z126 (by decide)) | (exact absurd (by decide) z126) | (exact absurd rfl z126) | (exact absurd z126 (of_nn (by omega))) | (exact absurd (of_np (by omega)) z126) | omega
                · intro z126
                  refine b_24_129 _ _ _ (by first | (exact hc_o (by first | assumption | (exact ⟨by decide, rfl⟩))) | assumption | (exact (hc_far (by omega)).trans (by assumption))) (by omega) ?_
                  refine cs_num hn hL h8 hg rfl hkL hf hkf ?_
                  refine b_24_133 _ _ _ ?_
                  refine b_24_140 _ _ _ ?_
                  first
                    | (refine Kw _ _ (mh_tk_w ?_ ?_ ?_) ?_
                       · rw [et]
                         rfl
                       · rw [et]
                         rfl
                       · rw [et]
                         rfl
                       · rw [et]
                         exact fun h => (ms_k37' h).elim)
                    | (refine Kw _ _ (mh_tk_n ?_ ?_ ?_) ?_
                       · rw [et]
                         rfl
                       · rw [et]
                         rfl
                       · rw [et]
                         rfl
                       · rw [et]
                         intro _
                         first | (rw [if_neg h45]; exact rfl) | (rw [if_pos h45]; exact rfl))
                    | (refine Kw _ _ (mh_tk_s ?_ ?_ ?_) ?_
                       · rw [et]
                         rfl
                       · rw [et]
                         show _ = Int32.ofNat ((if _ then k + 2 else k + 1) - k)
                         split
                         · rw [show k + 2 - k = 2 by omega]
                           rfl
                         · rw [show k + 1 - k = 1 by omega]
                           rfl
                       · rw [et]
                         rfl
                       · rw [et]
                         exact fun h => absurd h ms_sg_r.2.2.1)
                    | (refine Kw _ _ (mh_tk_f ?_ ?_ ?_) ?_
                       · rw [et]
                         rfl
                       · rw [et]
                         exact (congrArg Int32.ofNat (Nat.sub_self k)).symm
                       · rw [et]
                         rfl
                       · rw [et]
                         exact fun h => absurd (show 39 = 37 from h) (by decide))
              · have et : ms_tk g L k = (ms_sg (g k) (ms_c g L (k + 1)), k, if (g k = 60 ∨ g k = 62) ∧ ms_c g L (k + 1) = 61 then k + 2 else k + 1, 0) := by
                  unfold ms_tk
                  rw [if_neg (by omega), if_neg hl, if_neg hd, ms_c_lt hkL, if_neg (fun h => hd2 h.2)]
                refine b_24_126 _ _ _ ?_ ?_
                · intro z126
                  refine b_24_136 _ _ _ (by first | (exact hc_o (by first | assumption | (exact ⟨by decide, rfl⟩))) | assumption | (exact (hc_far (by omega)).trans (by assumption))) (by omega) ?_
                  refine cs_sign hn hL h8 hg rfl hkL ?_
                  refine b_24_140 _ _ _ ?_
                  first
                    | (refine Kw _ _ (mh_tk_w ?_ ?_ ?_) ?_
                       · rw [et]
                         rfl
                       · rw [et]
                         rfl
                       · rw [et]
                         rfl
                       · rw [et]
                         exact fun h => (ms_k37' h).elim)
                    | (refine Kw _ _ (mh_tk_n ?_ ?_ ?_) ?_
                       · rw [et]
                         rfl
                       · rw [et]
                         rfl
                       · rw [et]
                         rfl
                       · rw [et]
                         intro _
                         first | (rw [if_neg h45]; exact rfl) | (rw [if_pos h45]; exact rfl))
                    | (refine Kw _ _ (mh_tk_s ?_ ?_ ?_) ?_
                       · rw [et]
                         rfl
                       · rw [et]
                         show _ = Int32.ofNat ((if _ then k + 2 else k + 1) - k)
                         split
                         · rw [show k + 2 - k = 2 by omega]
                           rfl
                         · rw [show k + 1 - k = 1 by omega]
                           rfl
                       · rw [et]
                         rfl
                       · rw [et]
                         exact fun h => absurd h ms_sg_r.2.2.1)
                    | (refine Kw _ _ (mh_tk_f ?_ ?_ ?_) ?_
                       · rw [et]
                         rfl
                       · rw [et]
                         exact (congrArg Int32.ofNat (Nat.sub_self k)).symm
                       · rw [et]
                         rfl
                       · rw [et]
                         exact fun h => absurd (show 39 = 37 from h) (by decide))
                · intro z126
                  first | (exact absurd z126 (by decide)) | (exact absurd (by decide) z126) | (exact absurd rfl z126) | (exact absurd z126 (of_nn (by omega))) | (exact absurd (of_np (by omega)) z126) | omega
      · intro z82
        first | (exact absurd z82 (by decide)) | (exact absurd (by decide) z82) | (exact absurd rfl z82) | (exact absurd z82 (of_nn (by omega))) | (exact absurd (of_np (by omega)) z82) | omega
  · intro z46
    refine hw_W (hw_2 (hw_I (by first | assumption | (exact ⟨by decide, rfl⟩)) (by decide)) (hw_I (by first | assumption | (exact ⟨by decide, rfl⟩)) (by decide))) ?_
    have hkL : k = L := by
      have := (not_congr (i_lt rfl hL (by omega) (by omega))).mp z46
      omega
    have et : ms_tk g L k = (39, k, k, 0) := by unfold ms_tk; rw [if_pos hkL]
    refine b_24_64 _ _ _ (by first | (exact hc_o (by first | assumption | (exact ⟨by decide, rfl⟩))) | assumption | (exact (hc_far (by omega)).trans (by assumption))) (by omega) (Nat.le_of_ble_eq_true rfl) ?_
    refine hw_W (hw_I (by first | assumption | (exact ⟨by decide, rfl⟩)) (by decide)) ?_
    refine b_24_140 _ _ _ ?_
    first
      | (refine Kw _ _ (mh_tk_w ?_ ?_ ?_) ?_
         · rw [et]
           rfl
         · rw [et]
           rfl
         · rw [et]
           rfl
         · rw [et]
           exact fun h => (ms_k37' h).elim)
      | (refine Kw _ _ (mh_tk_n ?_ ?_ ?_) ?_
         · rw [et]
           rfl
         · rw [et]
           rfl
         · rw [et]
           rfl
         · rw [et]
           intro _
           first | (rw [if_neg h45]; exact rfl) | (rw [if_pos h45]; exact rfl))
      | (refine Kw _ _ (mh_tk_s ?_ ?_ ?_) ?_
         · rw [et]
           rfl
         · rw [et]
           show _ = Int32.ofNat ((if _ then k + 2 else k + 1) - k)
           split
           · rw [show k + 2 - k = 2 by omega]
             rfl
           · rw [show k + 1 - k = 1 by omega]
             rfl
         · rw [et]
           rfl
         · rw [et]
           exact fun h => absurd h ms_sg_r.2.2.1)
      | (refine Kw _ _ (mh_tk_f ?_ ?_ ?_) ?_
         · rw [et]
           rfl
         · rw [et]
           exact (congrArg Int32.ofNat (Nat.sub_self k)).symm
         · rw [et]
           rfl
         · rw [et]
           exact fun h => absurd (show 39 = 37 from h) (by decide))
theorem cs_adv (hn : 575 ≤ n) (hK : mc_K n f0) (hL : a.I 1 1 6 = Int32.ofNat L) (h8 : L ≤ 8192) (hg : ∀ k, k < L → a.AI 1 1 0 k = g k) (hp : p ≤ L) (h34 : a.I 1 1 3 + a.I 1 1 4 = Int32.ofNat p) (K : ∀ v, ((ms_nx g L p).k = 37 → v = (ms_nx g L p).v) → Q (.inl none) (n, sl, hc (mh_tk a (ms_nx g L p) v) f0)) : mi_W (d + 6) 24 0 (mi_en 2 [.ref 1]) [] (n, sl, hc a f0) Q := by
  have hle := ms_sk_le (g := g) (L - p) p
  refine b_24_0 _ _ _ (by first | (exact hc_o (by first | assumption | (exact ⟨by decide, rfl⟩))) | assumption | (exact (hc_far (by omega)).trans (by assumption))) (by omega) (by first | rfl | assumption) (by first | (exact hc_o (by first | assumption | (exact ⟨by decide, rfl⟩))) | assumption | (exact (hc_far (by omega)).trans (by assumption))) (by omega) (by first | rfl | assumption) ?_
  rw [h34]
  exact cs_sk hn hL h8 hg (L - p) p (by omega) (cs_adv46 hn hK hL h8 hg (by omega) K)
/-- an octet that no text may have -/
def ms_fb (x : Int32) : Prop := ¬ x = 10 ∧ (x < 32 ∨ ¬ x ≤ 126)
theorem cs_fb {m : Nat} (hn : 575 ≤ n) (hm : m ≤ 8192) (K1 : ∀ i, i < m → ms_fb (a.AI 1 1 0 i) → (∀ j, j < i → ¬ ms_fb (a.AI 1 1 0 j)) → Q (.inl (some (.int (Int32.ofNat i)))) (n, sl, hc a f0)) (K0 : (∀ j, j < m → ¬ ms_fb (a.AI 1 1 0 j)) → Q (.inl (some (.int (-1)))) (n, sl, hc a f0)) : ∀ (t i : Nat), i + t = m → (∀ j, j < i → ¬ ms_fb (a.AI 1 1 0 j)) → mi_W d 20 2 [some (.ref 1), some (.int (Int32.ofNat m)), some (.int (Int32.ofNat i))] [] (n, sl, hc a f0) Q := by
  intro t
  induction t with
  | zero =>
    intro i hi hj
    refine b_20_2 _ _ _ ?_ ?_
    · intro z2
      refine b_20_55 _ _ _ ?_
      exact K0 (fun j h => hj j (by omega))
    · intro z2
      exact absurd ((i_le rfl rfl (by omega) (by omega)).mpr (by omega)) z2
  | succ t ih =>
    intro i hi hj
    have nx : ¬ ms_fb (a.AI 1 1 0 i) → mi_W d 20 2 [some (.ref 1), some (.int (Int32.ofNat m)), some (.int (Int32.ofNat i + 1))] [] (n, sl, hc a f0) Q := by
      intro h
      rw [of_succ]
      refine ih (i + 1) (by omega) (fun j hj' => ?_)
      by_cases e : j = i
      · rw [e]
        exact h
      · exact hj j (by omega)
    refine b_20_2 _ _ _ ?_ ?_
    · intro z2
      exact absurd ((i_le rfl rfl (by omega) (by omega)).mp z2) (by omega)
    · intro z2
      refine b_20_7 _ _ _ ?_ ?_
      · intro z7
        exact absurd ((i_le (a := 8200) rfl rfl (by omega) (by omega)).mp z7) (by omega)
      · intro z7
        refine b_20_14 _ _ _ _ _ _ (by first | (exact hc_o (by first | assumption | (exact ⟨by decide, rfl⟩))) | assumption | (exact (hc_far (by omega)).trans (by assumption))) (by omega) (by first | rfl | assumption) (by first | (exact hc_ai (by omega) (by first | assumption | (exact (ht9 (by assumption)).2.1) | (exact (ht9 (by assumption)).2.2.1) | (exact (ht9 (by assumption)).2.2.2) | rfl) (by decide)) | assumption | (exact (hc_far (by omega)).trans (by assumption))) (by omega) (by first | assumption | (exact ix_of (by omega) (by omega)) | (exact ⟨by decide, rfl, by decide⟩)) ?_ ?_
        · intro z14
          refine b_20_49 _ _ _ ?_
          exact nx (by first | exact fun h => h.1 z14 | exact fun h => h.2.elim z25 (fun h => h z36))
        · intro z14
          refine b_20_25 _ _ _ _ _ _ (by first | (exact hc_o (by first | assumption | (exact ⟨by decide, rfl⟩))) | assumption | (exact (hc_far (by omega)).trans (by assumption))) (by omega) (by first | rfl | assumption) (by first | (exact hc_ai (by omega) (by first | assumption | (exact (ht9 (by assumption)).2.1) | (exact (ht9 (by assumption)).2.2.1) | (exact (ht9 (by assumption)).2.2.2) | rfl) (by decide)) | assumption | (exact (hc_far (by omega)).trans (by assumption))) (by omega) (by first | assumption | (exact ix_of (by omega) (by omega)) | (exact ⟨by decide, rfl, by decide⟩)) ?_ ?_
          · intro z25
            refine b_20_47 _ _ _ ?_
            exact K1 i (by omega) (by first | exact ⟨z14, Or.inl z25⟩ | exact ⟨z14, Or.inr z36⟩) hj
          · intro z25
            refine b_20_36 _ _ _ _ _ _ (by first | (exact hc_o (by first | assumption | (exact ⟨by decide, rfl⟩))) | assumption | (exact (hc_far (by omega)).trans (by assumption))) (by omega) (by first | rfl | assumption) (by first | (exact hc_ai (by omega) (by first | assumption | (exact (ht9 (by assumption)).2.1) | (exact (ht9 (by assumption)).2.2.1) | (exact (ht9 (by assumption)).2.2.2) | rfl) (by decide)) | assumption | (exact (hc_far (by omega)).trans (by assumption))) (by omega) (by first | assumption | (exact ix_of (by omega) (by omega)) | (exact ⟨by decide, rfl, by decide⟩)) ?_ ?_
            · intro z36
              refine b_20_49 _ _ _ ?_
              exact nx (by first | exact fun h => h.1 z14 | exact fun h => h.2.elim z25 (fun h => h z36))
            · intro z36
              refine b_20_47 _ _ _ ?_
              exact K1 i (by omega) (by first | exact ⟨z14, Or.inl z25⟩ | exact ⟨z14, Or.inr z36⟩) hj
end
