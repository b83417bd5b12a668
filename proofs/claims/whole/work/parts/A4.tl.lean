/-! the second object's reading: a value or a truth, from its node on -/
theorem mz_nf {P : Prop} (h : false = true) : P := Bool.noConfusion h
section
variable {g : Nat → Int32} {L i : Nat} {σ σ' : ms_S}
theorem ms_pa_n (h : ms_pa g L σ = .ok (i, σ')) : σ'.n = σ.n ∧ σ'.q = σ.q := by
  rw [(ms_pa_eq h).1]
  exact ⟨rfl, rfl⟩
theorem ms_to_n (h : ms_to g L σ = .ok (i, σ')) : σ'.n = σ.n ∧ σ'.q = σ.q := by
  unfold ms_to at h
  split at h
  · split at h
    · exact absurd h (by intro e; cases e)
    · cases h
      exact ⟨rfl, rfl⟩
  · exact absurd h (by intro e; cases e)
theorem ms_va_n (h : ms_va g L σ = .ok (i, σ')) : σ'.n = σ.n ∧ σ'.q = σ.q := by
  unfold ms_va at h
  split at h
  · split at h
    · exact absurd h (by intro e; cases e)
    · cases h
      exact ⟨rfl, rfl⟩
  · exact absurd h (by intro e; cases e)
theorem ms_hc_n (h : ms_hc g L σ = .ok (i, σ')) : σ'.n = σ.n ∧ σ'.q = σ.q := by
  unfold ms_hc at h
  split at h
  · split at h
    · split at h
      · exact absurd h (by intro e; cases e)
      · cases hp : ms_pa g L (σ.nx g L) with
        | error w =>
          rw [hp, ms_eb_er] at h
          exact absurd h (by intro e; cases e)
        | ok p =>
          obtain ⟨i2, σ2⟩ := p
          rw [hp, ms_eb_ok] at h
          cases h
          have h2 := ms_pa_n hp
          exact h2
    · exact absurd h (by intro e; cases e)
  · exact absurd h (by intro e; cases e)
end
section
variable {n sl k m : Nat} {z : mr_Z} {σ : ms_S} {s : Value} {v : Int64} {g : Nat → Int32} {L : Nat}
def mr_wj (m : Nat) (v : Int64) (z : mr_Z) : mr_Z := (va_up z.f 517 (.inl (3, 800, .inr (.inl (vp_updL (z.J 517) m v)))), z.X, z.Y, z.I, va_up z.J 517 (vp_updL (z.J 517) m v))
theorem mr_wj_at : (mr_wj m v z).J 517 m = v := by
  show va_up z.J 517 (vp_updL (z.J 517) m v) 517 m = v
  rw [va_eq, mu_Leq]
theorem mr_wj_st (hz : mr_st n s g L z σ k) : mr_st n s g L (mr_wj m v z) σ k := by
  obtain ⟨hB, hK, hT, h3', h21, h22, h23, hr⟩ := hz
  refine ⟨hB.j (by decide), hK.to (fun p hp => va_ne (by omega)), hT, h3', h21, h22, ⟨h23.1, h23.2.1, fun i hi => ?_⟩, hr⟩
  have e1 : (mr_wj m v z).J 518 = z.J 518 := by show va_up z.J 517 (vp_updL (z.J 517) m v) 518 = z.J 518; exact va_ne (by decide)
  have e2 : (mr_wj m v z).J 519 = z.J 519 := by show va_up z.J 517 (vp_updL (z.J 517) m v) 519 = z.J 519; exact va_ne (by decide)
  rw [e1, e2]
  exact h23.2.2 i hi
theorem mr_wj_rf : mr_rf z (mr_wj m v z) := ⟨fun _ _ => rfl, fun _ _ => rfl, fun _ _ => rfl, fun p hp => va_ne (by omega), fun p hp => va_ne (by unfold mr_far at hp; omega)⟩
theorem mr_go.wj {z0 : mr_Z} {σ0 : ms_S} (h : mr_go z0 σ0 z σ) (hm : σ0.n ≤ m) : mr_go z0 σ0 (mr_wj m v z) σ := by
  refine ⟨h.1, h.2.1.trans mr_wj_rf, h.2.2.1, fun i hi => ?_, fun i hi => ?_⟩
  · show va_up z.J 517 (vp_updL (z.J 517) m v) 517 i = _
    rw [va_eq, mu_Lne (by omega)]
    exact h.2.2.2.1 i hi
  · have e1 : (mr_wj m v z).J 518 = z.J 518 := by show va_up z.J 517 (vp_updL (z.J 517) m v) 518 = z.J 518; exact va_ne (by decide)
    have e2 : (mr_wj m v z).J 519 = z.J 519 := by show va_up z.J 517 (vp_updL (z.J 517) m v) 519 = z.J 519; exact va_ne (by decide)
    rw [e1, e2]
    exact h.2.2.2.2 i hi
end
section
variable {d n sl k op : Nat} {z : mr_Z} {σ : ms_S} {s : Value} {Q : (Option Value ⊕ Nat) → mi_H → Prop} {g : Nat → Int32} {L : Nat} {o2 o3 o4 : Option Value}
theorem sq_bN (hn : 575 ≤ n) (hz : mr_st n s g L z σ k) (K : ∀ j z', k = j + 1 → ¬ σ.n = 800 → mr_st n s g L z' (σ.add.nx g L) j → ¬ (σ.add.nx g L).t.k = 40 → mr_go z σ z' (σ.add.nx g L) → z'.I 509 σ.n = Int32.ofNat op → (σ.t.k = 37 → z'.J 517 σ.n = σ.t.v) → mi_W (d + 1 + 1 + 1 + 1 + 1 + 1) 163 303 [some (.ref 505), some (.int (Int32.ofNat op)), some (.int (Int32.ofNat σ.n)), some (.int 1)] [] (n, sl, z'.f) Q) (K0 : ∀ z' w, (k = 0 ∧ w = σ.t.a ∨ ∃ j, k = j + 1 ∧ (σ.n = 800 ∧ w = σ.t.a ∨ ¬ σ.n = 800 ∧ (σ.add.nx g L).t.k = 40 ∧ w = (σ.add.nx g L).t.a)) → mr_er n s z z' w → Q (.inl (some (.int (-1)))) (n, sl, z'.f)) : mi_W (d + 1 + 1 + 1 + 1 + 1 + 1) 163 253 [some (.ref 505), some (.int (Int32.ofNat op)), o3, o4] [] (n, sl, z.f) Q := by
  have q505 := hz.1.1
  have hT7 := hz.2.2.1.2.2.2.2.2.2.1
  have hn80 := hz.2.2.2.2.1.2
  refine b_163_253 _ _ _ (by first | assumption | (exact mL_get (by decide)) | (rw [mL_len]; decide) | (simp only [mL_set]; exact mL_get (by decide)) | (simp only [mL_set, mL_len]; decide) | (exact va_eq) | (exact (va_ne (by omega)).trans (by assumption)) | (exact (va_ne (by omega)).trans va_eq) | (exact (va_ne (by omega)).trans ((va_ne (by omega)).trans (by assumption))) | (exact (va_ne (by omega)).trans ((va_ne (by omega)).trans ((va_ne (by omega)).trans (by assumption)))) | rfl | (exact Or.inl rfl) | (exact Or.inr rfl) | omega | (exact Nat.le_of_ble_eq_true rfl) | decide | (exact ⟨by decide, rfl, by decide⟩)) (by first | assumption | (exact mL_get (by decide)) | (rw [mL_len]; decide) | (simp only [mL_set]; exact mL_get (by decide)) | (simp only [mL_set, mL_len]; decide) | (exact va_eq) | (exact (va_ne (by omega)).trans (by assumption)) | (exact (va_ne (by omega)).trans va_eq) | (exact (va_ne (by omega)).trans ((va_ne (by omega)).trans (by assumption))) | (exact (va_ne (by omega)).trans ((va_ne (by omega)).trans ((va_ne (by omega)).trans (by assumption)))) | rfl | (exact Or.inl rfl) | (exact Or.inr rfl) | omega | (exact Nat.le_of_ble_eq_true rfl) | decide | (exact ⟨by decide, rfl, by decide⟩)) ?_
  refine sq_open hn hz (fun j z1 hj hz1 hg1 hI1 hJ1 hY1 => ?_) (fun z1 hk0 he => ?_)
  · have q505 := hz1.1.1
    refine b_163_257 _ _ _ ?_ ?_
    · intro z257
      refine b_163_262 _ _ _ (by first | assumption | (exact mL_get (by decide)) | (rw [mL_len]; decide) | (simp only [mL_set]; exact mL_get (by decide)) | (simp only [mL_set, mL_len]; decide) | (exact va_eq) | (exact (va_ne (by omega)).trans (by assumption)) | (exact (va_ne (by omega)).trans va_eq) | (exact (va_ne (by omega)).trans ((va_ne (by omega)).trans (by assumption))) | (exact (va_ne (by omega)).trans ((va_ne (by omega)).trans ((va_ne (by omega)).trans (by assumption)))) | rfl | (exact Or.inl rfl) | (exact Or.inr rfl) | omega | (exact Nat.le_of_ble_eq_true rfl) | decide | (exact ⟨by decide, rfl, by decide⟩)) (by first | assumption | (exact mL_get (by decide)) | (rw [mL_len]; decide) | (simp only [mL_set]; exact mL_get (by decide)) | (simp only [mL_set, mL_len]; decide) | (exact va_eq) | (exact (va_ne (by omega)).trans (by assumption)) | (exact (va_ne (by omega)).trans va_eq) | (exact (va_ne (by omega)).trans ((va_ne (by omega)).trans (by assumption))) | (exact (va_ne (by omega)).trans ((va_ne (by omega)).trans ((va_ne (by omega)).trans (by assumption)))) | rfl | (exact Or.inl rfl) | (exact Or.inr rfl) | omega | (exact Nat.le_of_ble_eq_true rfl) | decide | (exact ⟨by decide, rfl, by decide⟩)) ?_
      refine sq_node hn hz1 (fun z2 hn8 hz2 hg2 hA2 hJ2 hY2 => ?_) (fun z2 hn8 he => ?_)
      · have q505 := hz2.1.1
        have qn := hz2.1.2.2 (517, 800) (by decide)
        have hxm := ix_of (w := σ.n) (m := 800) (by omega) (by omega)
        refine b_163_267 _ _ _ ?_ ?_
        · intro z267
          first | (exact absurd z267 (by decide)) | (exact absurd (by decide) z267) | (exact absurd rfl z267) | (exact absurd z267 (of_nn (by omega))) | (exact absurd (of_np (by omega)) z267) | omega
        · intro z267
          have q505 := hz2.1.1
          refine b_163_272 _ _ _ _ _ _ (by first | assumption | (exact mL_get (by decide)) | (rw [mL_len]; decide) | (simp only [mL_set]; exact mL_get (by decide)) | (simp only [mL_set, mL_len]; decide) | (exact va_eq) | (exact (va_ne (by omega)).trans (by assumption)) | (exact (va_ne (by omega)).trans va_eq) | (exact (va_ne (by omega)).trans ((va_ne (by omega)).trans (by assumption))) | (exact (va_ne (by omega)).trans ((va_ne (by omega)).trans ((va_ne (by omega)).trans (by assumption)))) | rfl | (exact Or.inl rfl) | (exact Or.inr rfl) | omega | (exact Nat.le_of_ble_eq_true rfl) | decide | (exact ⟨by decide, rfl, by decide⟩)) (by first | assumption | (exact mL_get (by decide)) | (rw [mL_len]; decide) | (simp only [mL_set]; exact mL_get (by decide)) | (simp only [mL_set, mL_len]; decide) | (exact va_eq) | (exact (va_ne (by omega)).trans (by assumption)) | (exact (va_ne (by omega)).trans va_eq) | (exact (va_ne (by omega)).trans ((va_ne (by omega)).trans (by assumption))) | (exact (va_ne (by omega)).trans ((va_ne (by omega)).trans ((va_ne (by omega)).trans (by assumption)))) | rfl | (exact Or.inl rfl) | (exact Or.inr rfl) | omega | (exact Nat.le_of_ble_eq_true rfl) | decide | (exact ⟨by decide, rfl, by decide⟩)) (by first | assumption | (exact mL_get (by decide)) | (rw [mL_len]; decide) | (simp only [mL_set]; exact mL_get (by decide)) | (simp only [mL_set, mL_len]; decide) | (exact va_eq) | (exact (va_ne (by omega)).trans (by assumption)) | (exact (va_ne (by omega)).trans va_eq) | (exact (va_ne (by omega)).trans ((va_ne (by omega)).trans (by assumption))) | (exact (va_ne (by omega)).trans ((va_ne (by omega)).trans ((va_ne (by omega)).trans (by assumption)))) | rfl | (exact Or.inl rfl) | (exact Or.inr rfl) | omega | (exact Nat.le_of_ble_eq_true rfl) | decide | (exact ⟨by decide, rfl, by decide⟩)) (by first | assumption | (exact mL_get (by decide)) | (rw [mL_len]; decide) | (simp only [mL_set]; exact mL_get (by decide)) | (simp only [mL_set, mL_len]; decide) | (exact va_eq) | (exact (va_ne (by omega)).trans (by assumption)) | (exact (va_ne (by omega)).trans va_eq) | (exact (va_ne (by omega)).trans ((va_ne (by omega)).trans (by assumption))) | (exact (va_ne (by omega)).trans ((va_ne (by omega)).trans ((va_ne (by omega)).trans (by assumption)))) | rfl | (exact Or.inl rfl) | (exact Or.inr rfl) | omega | (exact Nat.le_of_ble_eq_true rfl) | decide | (exact ⟨by decide, rfl, by decide⟩)) (by first | assumption | (exact mL_get (by decide)) | (rw [mL_len]; decide) | (simp only [mL_set]; exact mL_get (by decide)) | (simp only [mL_set, mL_len]; decide) | (exact va_eq) | (exact (va_ne (by omega)).trans (by assumption)) | (exact (va_ne (by omega)).trans va_eq) | (exact (va_ne (by omega)).trans ((va_ne (by omega)).trans (by assumption))) | (exact (va_ne (by omega)).trans ((va_ne (by omega)).trans ((va_ne (by omega)).trans (by assumption)))) | rfl | (exact Or.inl rfl) | (exact Or.inr rfl) | omega | (exact Nat.le_of_ble_eq_true rfl) | decide | (exact ⟨by decide, rfl, by decide⟩)) (by first | assumption | (exact mL_get (by decide)) | (rw [mL_len]; decide) | (simp only [mL_set]; exact mL_get (by decide)) | (simp only [mL_set, mL_len]; decide) | (exact va_eq) | (exact (va_ne (by omega)).trans (by assumption)) | (exact (va_ne (by omega)).trans va_eq) | (exact (va_ne (by omega)).trans ((va_ne (by omega)).trans (by assumption))) | (exact (va_ne (by omega)).trans ((va_ne (by omega)).trans ((va_ne (by omega)).trans (by assumption)))) | rfl | (exact Or.inl rfl) | (exact Or.inr rfl) | omega | (exact Nat.le_of_ble_eq_true rfl) | decide | (exact ⟨by decide, rfl, by decide⟩)) (by first | assumption | (exact mL_get (by decide)) | (rw [mL_len]; decide) | (simp only [mL_set]; exact mL_get (by decide)) | (simp only [mL_set, mL_len]; decide) | (exact va_eq) | (exact (va_ne (by omega)).trans (by assumption)) | (exact (va_ne (by omega)).trans va_eq) | (exact (va_ne (by omega)).trans ((va_ne (by omega)).trans (by assumption))) | (exact (va_ne (by omega)).trans ((va_ne (by omega)).trans ((va_ne (by omega)).trans (by assumption)))) | rfl | (exact Or.inl rfl) | (exact Or.inr rfl) | omega | (exact Nat.le_of_ble_eq_true rfl) | decide | (exact ⟨by decide, rfl, by decide⟩)) (by first | assumption | (exact mL_get (by decide)) | (rw [mL_len]; decide) | (simp only [mL_set]; exact mL_get (by decide)) | (simp only [mL_set, mL_len]; decide) | (exact va_eq) | (exact (va_ne (by omega)).trans (by assumption)) | (exact (va_ne (by omega)).trans va_eq) | (exact (va_ne (by omega)).trans ((va_ne (by omega)).trans (by assumption))) | (exact (va_ne (by omega)).trans ((va_ne (by omega)).trans ((va_ne (by omega)).trans (by assumption)))) | rfl | (exact Or.inl rfl) | (exact Or.inr rfl) | omega | (exact Nat.le_of_ble_eq_true rfl) | decide | (exact ⟨by decide, rfl, by decide⟩)) (by first | assumption | (exact mL_get (by decide)) | (rw [mL_len]; decide) | (simp only [mL_set]; exact mL_get (by decide)) | (simp only [mL_set, mL_len]; decide) | (exact va_eq) | (exact (va_ne (by omega)).trans (by assumption)) | (exact (va_ne (by omega)).trans va_eq) | (exact (va_ne (by omega)).trans ((va_ne (by omega)).trans (by assumption))) | (exact (va_ne (by omega)).trans ((va_ne (by omega)).trans ((va_ne (by omega)).trans (by assumption)))) | rfl | (exact Or.inl rfl) | (exact Or.inr rfl) | omega | (exact Nat.le_of_ble_eq_true rfl) | decide | (exact ⟨by decide, rfl, by decide⟩)) ?_
          show mi_W _ _ _ _ _ (n, sl, (mr_wj σ.n (z2.Y 11) z2).f) _
          have hz3 := mr_wj_st (m := σ.n) (v := z2.Y 11) hz2
          have hg3 := (hg1.trans hg2).wj (m := σ.n) (v := z2.Y 11) (Nat.le_refl _)
          have q505 := hz3.1.1
          refine b_163_282 _ _ _ ?_ ?_
          · intro z282
            first | (exact absurd z282 (by decide)) | (exact absurd (by decide) z282) | (exact absurd rfl z282) | (exact absurd z282 (of_nn (by omega))) | (exact absurd (of_np (by omega)) z282) | omega
          · intro z282
            refine b_163_286 _ _ _ (by first | assumption | (exact mL_get (by decide)) | (rw [mL_len]; decide) | (simp only [mL_set]; exact mL_get (by decide)) | (simp only [mL_set, mL_len]; decide) | (exact va_eq) | (exact (va_ne (by omega)).trans (by assumption)) | (exact (va_ne (by omega)).trans va_eq) | (exact (va_ne (by omega)).trans ((va_ne (by omega)).trans (by assumption))) | (exact (va_ne (by omega)).trans ((va_ne (by omega)).trans ((va_ne (by omega)).trans (by assumption)))) | rfl | (exact Or.inl rfl) | (exact Or.inr rfl) | omega | (exact Nat.le_of_ble_eq_true rfl) | decide | (exact ⟨by decide, rfl, by decide⟩)) (by first | assumption | (exact mL_get (by decide)) | (rw [mL_len]; decide) | (simp only [mL_set]; exact mL_get (by decide)) | (simp only [mL_set, mL_len]; decide) | (exact va_eq) | (exact (va_ne (by omega)).trans (by assumption)) | (exact (va_ne (by omega)).trans va_eq) | (exact (va_ne (by omega)).trans ((va_ne (by omega)).trans (by assumption))) | (exact (va_ne (by omega)).trans ((va_ne (by omega)).trans ((va_ne (by omega)).trans (by assumption)))) | rfl | (exact Or.inl rfl) | (exact Or.inr rfl) | omega | (exact Nat.le_of_ble_eq_true rfl) | decide | (exact ⟨by decide, rfl, by decide⟩)) ?_
            refine sq_next hn hz3 (fun z4 h40 hz4 hg4 hI4 hJ4 => ?_) (fun z4 h40 he => ?_)
            · have q505 := hz4.1.1
              refine b_163_290 _ _ _ ?_ ?_
              · intro z290
                first | (exact absurd z290 (by decide)) | (exact absurd (by decide) z290) | (exact absurd rfl z290) | (exact absurd z290 (of_nn (by omega))) | (exact absurd (of_np (by omega)) z290) | omega
              · intro z290
                refine b_163_293 _ _ _ ?_
                refine b_163_298 _ _ _ ?_ ?_
                · intro z298
                  first | (exact absurd z298 (by decide)) | (exact absurd (by decide) z298) | (exact absurd rfl z298) | (exact absurd z298 (of_nn (by omega))) | (exact absurd (of_np (by omega)) z298) | omega
                · intro z298
                  refine K j z4 hj hn8 hz4 h40 (hg3.trans hg4) ?_ (fun hk => ?_)
                  · rw [hI4]
                    exact hA2
                  · rw [hJ4, mr_wj_at, hY2, hY1]
                    exact hT7 hk
            · have he := hg3.er he
              have hwhy : k = 0 ∧ (σ.add.nx g L).t.a = σ.t.a ∨ ∃ j, k = j + 1 ∧ (σ.n = 800 ∧ (σ.add.nx g L).t.a = σ.t.a ∨ ¬ σ.n = 800 ∧ (σ.add.nx g L).t.k = 40 ∧ (σ.add.nx g L).t.a = (σ.add.nx g L).t.a) := Or.inr ⟨j, hj, Or.inr ⟨hn8, h40, rfl⟩⟩
              refine b_163_290 _ _ _ ?_ ?_
              · intro z290
                refine b_163_297 _ _ _ ?_
                refine b_163_298 _ _ _ ?_ ?_
                · intro z298
                  exact sq_gN hn he (fun z' he' => K0 z' _ hwhy he')
                · intro z298
                  first | (exact absurd z298 (by decide)) | (exact absurd (by decide) z298) | (exact absurd rfl z298) | (exact absurd z298 (of_nn (by omega))) | (exact absurd (of_np (by omega)) z298) | omega
              · intro z290
                first | (exact absurd z290 (by decide)) | (exact absurd (by decide) z290) | (exact absurd rfl z290) | (exact absurd z290 (of_nn (by omega))) | (exact absurd (of_np (by omega)) z290) | omega
      · have he := hg1.er he
        have q505 := he.1.1
        have hwhy : k = 0 ∧ σ.t.a = σ.t.a ∨ ∃ j, k = j + 1 ∧ (σ.n = 800 ∧ σ.t.a = σ.t.a ∨ ¬ σ.n = 800 ∧ (σ.add.nx g L).t.k = 40 ∧ σ.t.a = (σ.add.nx g L).t.a) := Or.inr ⟨j, hj, Or.inl ⟨hn8, rfl⟩⟩
        refine b_163_267 _ _ _ ?_ ?_
        · intro z267
          refine b_163_282 _ _ _ ?_ ?_
          · intro z282
            refine b_163_297 _ _ _ ?_
            refine b_163_298 _ _ _ ?_ ?_
            · intro z298
              exact sq_gN hn he (fun z' he' => K0 z' _ hwhy he')
            · intro z298
              first | (exact absurd z298 (by decide)) | (exact absurd (by decide) z298) | (exact absurd rfl z298) | (exact absurd z298 (of_nn (by omega))) | (exact absurd (of_np (by omega)) z298) | omega
          · intro z282
            first | (exact absurd z282 (by decide)) | (exact absurd (by decide) z282) | (exact absurd rfl z282) | (exact absurd z282 (of_nn (by omega))) | (exact absurd (of_np (by omega)) z282) | omega
        · intro z267
          first | (exact absurd z267 (by decide)) | (exact absurd (by decide) z267) | (exact absurd rfl z267) | (exact absurd z267 (of_nn (by omega))) | (exact absurd (of_np (by omega)) z267) | omega
    · intro z257
      first | (exact absurd z257 (by decide)) | (exact absurd (by decide) z257) | (exact absurd rfl z257) | (exact absurd z257 (of_nn (by omega))) | (exact absurd (of_np (by omega)) z257) | omega
  · have q505 := he.1.1
    refine b_163_257 _ _ _ ?_ ?_
    · intro z257
      first | (exact absurd z257 (by decide)) | (exact absurd (by decide) z257) | (exact absurd rfl z257) | (exact absurd z257 (of_nn (by omega))) | (exact absurd (of_np (by omega)) z257) | omega
    · intro z257
      refine b_163_260 _ _ _ ?_
      exact K0 z1 _ (Or.inl ⟨hk0, rfl⟩) he
theorem sq_bO (hn : 575 ≤ n) (hz : mr_st n s g L z σ k) (K : ∀ j z', k = j + 1 → ¬ σ.n = 800 → mr_st n s g L z' (σ.add.nx g L) j → ¬ (σ.add.nx g L).t.k = 40 → mr_go z σ z' (σ.add.nx g L) → z'.I 509 σ.n = Int32.ofNat op → mi_W (d + 1 + 1 + 1 + 1 + 1 + 1) 167 277 [some (.ref 505), some (.int (Int32.ofNat op)), some (.int (Int32.ofNat σ.n)), some (.int 1)] [] (n, sl, z'.f) Q) (K0 : ∀ z' w, (k = 0 ∧ w = σ.t.a ∨ ∃ j, k = j + 1 ∧ (σ.n = 800 ∧ w = σ.t.a ∨ ¬ σ.n = 800 ∧ (σ.add.nx g L).t.k = 40 ∧ w = (σ.add.nx g L).t.a)) → mr_er n s z z' w → Q (.inl (some (.int (-1)))) (n, sl, z'.f)) : mi_W (d + 1 + 1 + 1 + 1 + 1 + 1) 167 241 [some (.ref 505), some (.int (Int32.ofNat op)), o3, o4] [] (n, sl, z.f) Q := by
  have q505 := hz.1.1
  have hT7 := hz.2.2.1.2.2.2.2.2.2.1
  have hn80 := hz.2.2.2.2.1.2
  refine b_167_241 _ _ _ (by first | assumption | (exact mL_get (by decide)) | (rw [mL_len]; decide) | (simp only [mL_set]; exact mL_get (by decide)) | (simp only [mL_set, mL_len]; decide) | (exact va_eq) | (exact (va_ne (by omega)).trans (by assumption)) | (exact (va_ne (by omega)).trans va_eq) | (exact (va_ne (by omega)).trans ((va_ne (by omega)).trans (by assumption))) | (exact (va_ne (by omega)).trans ((va_ne (by omega)).trans ((va_ne (by omega)).trans (by assumption)))) | rfl | (exact Or.inl rfl) | (exact Or.inr rfl) | omega | (exact Nat.le_of_ble_eq_true rfl) | decide | (exact ⟨by decide, rfl, by decide⟩)) (by first | assumption | (exact mL_get (by decide)) | (rw [mL_len]; decide) | (simp only [mL_set]; exact mL_get (by decide)) | (simp only [mL_set, mL_len]; decide) | (exact va_eq) | (exact (va_ne (by omega)).trans (by assumption)) | (exact (va_ne (by omega)).trans va_eq) | (exact (va_ne (by omega)).trans ((va_ne (by omega)).trans (by assumption))) | (exact (va_ne (by omega)).trans ((va_ne (by omega)).trans ((va_ne (by omega)).trans (by assumption)))) | rfl | (exact Or.inl rfl) | (exact Or.inr rfl) | omega | (exact Nat.le_of_ble_eq_true rfl) | decide | (exact ⟨by decide, rfl, by decide⟩)) ?_
  refine sq_open hn hz (fun j z1 hj hz1 hg1 hI1 hJ1 hY1 => ?_) (fun z1 hk0 he => ?_)
  · have q505 := hz1.1.1
    refine b_167_245 _ _ _ ?_ ?_
    · intro z245
      refine b_167_250 _ _ _ (by first | assumption | (exact mL_get (by decide)) | (rw [mL_len]; decide) | (simp only [mL_set]; exact mL_get (by decide)) | (simp only [mL_set, mL_len]; decide) | (exact va_eq) | (exact (va_ne (by omega)).trans (by assumption)) | (exact (va_ne (by omega)).trans va_eq) | (exact (va_ne (by omega)).trans ((va_ne (by omega)).trans (by assumption))) | (exact (va_ne (by omega)).trans ((va_ne (by omega)).trans ((va_ne (by omega)).trans (by assumption)))) | rfl | (exact Or.inl rfl) | (exact Or.inr rfl) | omega | (exact Nat.le_of_ble_eq_true rfl) | decide | (exact ⟨by decide, rfl, by decide⟩)) (by first | assumption | (exact mL_get (by decide)) | (rw [mL_len]; decide) | (simp only [mL_set]; exact mL_get (by decide)) | (simp only [mL_set, mL_len]; decide) | (exact va_eq) | (exact (va_ne (by omega)).trans (by assumption)) | (exact (va_ne (by omega)).trans va_eq) | (exact (va_ne (by omega)).trans ((va_ne (by omega)).trans (by assumption))) | (exact (va_ne (by omega)).trans ((va_ne (by omega)).trans ((va_ne (by omega)).trans (by assumption)))) | rfl | (exact Or.inl rfl) | (exact Or.inr rfl) | omega | (exact Nat.le_of_ble_eq_true rfl) | decide | (exact ⟨by decide, rfl, by decide⟩)) ?_
      refine sq_node hn hz1 (fun z2 hn8 hz2 hg2 hA2 hJ2 hY2 => ?_) (fun z2 hn8 he => ?_)
      · have q505 := hz2.1.1
        have qn := hz2.1.2.2 (517, 800) (by decide)
        have hxm := ix_of (w := σ.n) (m := 800) (by omega) (by omega)
        have hz3 := hz2
        have hg3 := hg1.trans hg2
        refine b_167_255 _ _ _ ?_ ?_
        · intro z255
          first | (exact absurd z255 (by decide)) | (exact absurd (by decide) z255) | (exact absurd rfl z255) | (exact absurd z255 (of_nn (by omega))) | (exact absurd (of_np (by omega)) z255) | omega
        · intro z255
          refine b_167_260 _ _ _ (by first | assumption | (exact mL_get (by decide)) | (rw [mL_len]; decide) | (simp only [mL_set]; exact mL_get (by decide)) | (simp only [mL_set, mL_len]; decide) | (exact va_eq) | (exact (va_ne (by omega)).trans (by assumption)) | (exact (va_ne (by omega)).trans va_eq) | (exact (va_ne (by omega)).trans ((va_ne (by omega)).trans (by assumption))) | (exact (va_ne (by omega)).trans ((va_ne (by omega)).trans ((va_ne (by omega)).trans (by assumption)))) | rfl | (exact Or.inl rfl) | (exact Or.inr rfl) | omega | (exact Nat.le_of_ble_eq_true rfl) | decide | (exact ⟨by decide, rfl, by decide⟩)) (by first | assumption | (exact mL_get (by decide)) | (rw [mL_len]; decide) | (simp only [mL_set]; exact mL_get (by decide)) | (simp only [mL_set, mL_len]; decide) | (exact va_eq) | (exact (va_ne (by omega)).trans (by assumption)) | (exact (va_ne (by omega)).trans va_eq) | (exact (va_ne (by omega)).trans ((va_ne (by omega)).trans (by assumption))) | (exact (va_ne (by omega)).trans ((va_ne (by omega)).trans ((va_ne (by omega)).trans (by assumption)))) | rfl | (exact Or.inl rfl) | (exact Or.inr rfl) | omega | (exact Nat.le_of_ble_eq_true rfl) | decide | (exact ⟨by decide, rfl, by decide⟩)) ?_
          refine sq_next hn hz3 (fun z4 h40 hz4 hg4 hI4 hJ4 => ?_) (fun z4 h40 he => ?_)
          · have q505 := hz4.1.1
            refine b_167_264 _ _ _ ?_ ?_
            · intro z264
              first | (exact absurd z264 (by decide)) | (exact absurd (by decide) z264) | (exact absurd rfl z264) | (exact absurd z264 (of_nn (by omega))) | (exact absurd (of_np (by omega)) z264) | omega
            · intro z264
              refine b_167_267 _ _ _ ?_
              refine b_167_272 _ _ _ ?_ ?_
              · intro z272
                first | (exact absurd z272 (by decide)) | (exact absurd (by decide) z272) | (exact absurd rfl z272) | (exact absurd z272 (of_nn (by omega))) | (exact absurd (of_np (by omega)) z272) | omega
              · intro z272
                refine K j z4 hj hn8 hz4 h40 (hg3.trans hg4) ?_
                rw [hI4]
                exact hA2
          · have he := hg3.er he
            have hwhy : k = 0 ∧ (σ.add.nx g L).t.a = σ.t.a ∨ ∃ j, k = j + 1 ∧ (σ.n = 800 ∧ (σ.add.nx g L).t.a = σ.t.a ∨ ¬ σ.n = 800 ∧ (σ.add.nx g L).t.k = 40 ∧ (σ.add.nx g L).t.a = (σ.add.nx g L).t.a) := Or.inr ⟨j, hj, Or.inr ⟨hn8, h40, rfl⟩⟩
            refine b_167_264 _ _ _ ?_ ?_
            · intro z264
              refine b_167_271 _ _ _ ?_
              refine b_167_272 _ _ _ ?_ ?_
              · intro z272
                exact sq_gO hn he (fun z' he' => K0 z' _ hwhy he')
              · intro z272
                first | (exact absurd z272 (by decide)) | (exact absurd (by decide) z272) | (exact absurd rfl z272) | (exact absurd z272 (of_nn (by omega))) | (exact absurd (of_np (by omega)) z272) | omega
            · intro z264
              first | (exact absurd z264 (by decide)) | (exact absurd (by decide) z264) | (exact absurd rfl z264) | (exact absurd z264 (of_nn (by omega))) | (exact absurd (of_np (by omega)) z264) | omega
      · have he := hg1.er he
        have q505 := he.1.1
        have hwhy : k = 0 ∧ σ.t.a = σ.t.a ∨ ∃ j, k = j + 1 ∧ (σ.n = 800 ∧ σ.t.a = σ.t.a ∨ ¬ σ.n = 800 ∧ (σ.add.nx g L).t.k = 40 ∧ σ.t.a = (σ.add.nx g L).t.a) := Or.inr ⟨j, hj, Or.inl ⟨hn8, rfl⟩⟩
        refine b_167_255 _ _ _ ?_ ?_
        · intro z255
          refine b_167_271 _ _ _ ?_
          refine b_167_272 _ _ _ ?_ ?_
          · intro z272
            exact sq_gO hn he (fun z' he' => K0 z' _ hwhy he')
          · intro z272
            first | (exact absurd z272 (by decide)) | (exact absurd (by decide) z272) | (exact absurd rfl z272) | (exact absurd z272 (of_nn (by omega))) | (exact absurd (of_np (by omega)) z272) | omega
        · intro z255
          first | (exact absurd z255 (by decide)) | (exact absurd (by decide) z255) | (exact absurd rfl z255) | (exact absurd z255 (of_nn (by omega))) | (exact absurd (of_np (by omega)) z255) | omega
    · intro z245
      first | (exact absurd z245 (by decide)) | (exact absurd (by decide) z245) | (exact absurd rfl z245) | (exact absurd z245 (of_nn (by omega))) | (exact absurd (of_np (by omega)) z245) | omega
  · have q505 := he.1.1
    refine b_167_245 _ _ _ ?_ ?_
    · intro z245
      first | (exact absurd z245 (by decide)) | (exact absurd (by decide) z245) | (exact absurd rfl z245) | (exact absurd z245 (of_nn (by omega))) | (exact absurd (of_np (by omega)) z245) | omega
    · intro z245
      refine b_167_248 _ _ _ ?_
      exact K0 z1 _ (Or.inl ⟨hk0, rfl⟩) he
end
section
variable {g : Nat → Int32} {L op m : Nat} {E : Bool → ms_S → ms_R Unit} {v : Int64} {σ : ms_S}
theorem ms_bd0 (h : ms_sh op = 0) : ms_bd g L E op m v σ = .ok ((), σ.set m (op, 0, 0, 0, if op = 10 then v else 0, 0, 0, 0, 0, 0)) := by
  unfold ms_bd
  rw [h]
  rfl
theorem ms_bd1 (h : ms_sh op = 1) : ms_bd g L E op m v σ = ms_eb (ms_pa g L σ) (fun p σ => ms_eb (ms_to g L σ) (fun t σ => .ok ((), σ.set m (op, p, 0, t, 0, 0, 0, 0, 0, 0)))) := by
  unfold ms_bd
  rw [h]
  rfl
theorem ms_bd2 (h : ms_sh op = 2) : ms_bd g L E op m v σ = ms_eb (E false σ) (fun _ σ1 => .ok ((), σ1.set m (op, 0, 0, 0, 0, σ.n, 0, 0, 0, 0))) := by
  unfold ms_bd
  rw [h]
  rfl
theorem ms_bd3 (h : ms_sh op = 3) : ms_bd g L E op m v σ = ms_eb (E false σ) (fun _ σ1 => ms_eb (E false σ1) (fun _ σ2 => .ok ((), σ2.set m (op, 0, 0, 0, 0, σ.n, σ1.n, 0, 0, 0)))) := by
  unfold ms_bd
  rw [h]
  rfl
theorem ms_bd4 (h : ms_sh op = 4) : ms_bd g L E op m v σ = ms_eb (ms_hc g L σ) (fun h σ => .ok ((), σ.set m (op, h, 0, 0, 0, 0, 0, 0, 0, 0))) := by
  unfold ms_bd
  rw [h]
  rfl
theorem ms_bd5 (h : ms_sh op = 5) : ms_bd g L E op m v σ = ms_eb (ms_va g L σ) (fun h σ => .ok ((), σ.set m (op, h, 0, 0, 0, 0, 0, 0, 0, 0))) := by
  unfold ms_bd
  rw [h]
  rfl
theorem ms_bd6 (h : ms_sh op = 6) : ms_bd g L E op m v σ = ms_eb (E true σ) (fun _ σ1 => ms_eb (E false σ1) (fun _ σ2 => ms_eb (E false σ2) (fun _ σ3 => .ok ((), σ3.set m (op, 0, 0, 0, 0, σ.n, σ1.n, σ2.n, 0, 0))))) := by
  unfold ms_bd
  rw [h]
  rfl
theorem ms_bd7 (h : ms_sh op = 7) : ms_bd g L E op m v σ = ms_eb (E true σ) (fun _ σ1 => ms_eb (E true σ1) (fun _ σ2 => .ok ((), σ2.set m (op, 0, 0, 0, 0, σ.n, σ1.n, 0, 0, 0)))) := by
  unfold ms_bd
  rw [h]
  rfl
theorem ms_bd8 (h : ms_sh op = 8) : ms_bd g L E op m v σ = ms_eb (E true σ) (fun _ σ1 => .ok ((), σ1.set m (op, 0, 0, 0, 0, σ.n, 0, 0, 0, 0))) := by
  unfold ms_bd
  rw [h]
  rfl
end
section
variable {e n sl j op : Nat} {z0 z1 : mr_Z} {σ0 : ms_S} {s : Value} {v : Int64} {Q : (Option Value ⊕ Nat) → mi_H → Prop} {g : Nat → Int32} {L : Nat}
theorem sq_cN364 (hn : 575 ≤ n) (hd : j + 1 ≤ e) (hj : j < 100) (IH : mr_IE n sl s g L j) (hz1 : mr_st n s g L z1 (σ0.add.nx g L) j) (hg0 : mr_go z0 σ0 z1 (σ0.add.nx g L)) (h401 : ¬ (σ0.add.nx g L).t.k = 40) (hA : z1.I 509 σ0.n = Int32.ofNat op) (hop : op = 11) (hsp : ms_E g L (j + 1) false σ0 = ms_bd g L (ms_E g L j) op σ0.n σ0.t.v (σ0.add.nx g L)) (ok : mr_okE n sl s g L Q z0 σ0 (j + 1) false) (er : mr_erE n sl s g L Q z0 σ0 (j + 1) false) : mi_W (e + 14) 163 364 [some (.ref 505), some (.int (Int32.ofNat op)), some (.int (Int32.ofNat σ0.n)), some (.int 1)] [] (n, sl, z1.f) Q := by
  have hn80 : (σ0.add.nx g L).n ≤ 800 := hz1.2.2.2.2.1.2
  have hn1 : (σ0.add.nx g L).n = σ0.n + 1 := rfl
  have hm8 : σ0.n < 800 := by omega
  have hxm := ix_of (w := σ0.n) (m := 800) (by omega) (by omega)
  rw [ms_bd1 (by rcases hop with rfl <;> rfl)] at hsp
  generalize hσ1 : σ0.add.nx g L = σ1 at *
  have q505 := hz1.1.1
  have qAA := hz1.1.2.1 (510, 800) (by decide)
  have qAD := hz1.1.2.1 (512, 800) (by decide)
  refine b_163_364 _ _ _ (by first | assumption | (exact mL_get (by decide)) | (rw [mL_len]; decide) | (simp only [mL_set]; exact mL_get (by decide)) | (simp only [mL_set, mL_len]; decide) | (exact va_eq) | (exact (va_ne (by omega)).trans (by assumption)) | (exact (va_ne (by omega)).trans va_eq) | (exact (va_ne (by omega)).trans ((va_ne (by omega)).trans (by assumption))) | (exact (va_ne (by omega)).trans ((va_ne (by omega)).trans ((va_ne (by omega)).trans (by assumption)))) | rfl | (exact Or.inl rfl) | (exact Or.inr rfl) | omega | (exact Nat.le_of_ble_eq_true rfl) | decide | (exact ⟨by decide, rfl, by decide⟩)) (by first | assumption | (exact mL_get (by decide)) | (rw [mL_len]; decide) | (simp only [mL_set]; exact mL_get (by decide)) | (simp only [mL_set, mL_len]; decide) | (exact va_eq) | (exact (va_ne (by omega)).trans (by assumption)) | (exact (va_ne (by omega)).trans va_eq) | (exact (va_ne (by omega)).trans ((va_ne (by omega)).trans (by assumption))) | (exact (va_ne (by omega)).trans ((va_ne (by omega)).trans ((va_ne (by omega)).trans (by assumption)))) | rfl | (exact Or.inl rfl) | (exact Or.inr rfl) | omega | (exact Nat.le_of_ble_eq_true rfl) | decide | (exact ⟨by decide, rfl, by decide⟩)) (by first | assumption | (exact mL_get (by decide)) | (rw [mL_len]; decide) | (simp only [mL_set]; exact mL_get (by decide)) | (simp only [mL_set, mL_len]; decide) | (exact va_eq) | (exact (va_ne (by omega)).trans (by assumption)) | (exact (va_ne (by omega)).trans va_eq) | (exact (va_ne (by omega)).trans ((va_ne (by omega)).trans (by assumption))) | (exact (va_ne (by omega)).trans ((va_ne (by omega)).trans ((va_ne (by omega)).trans (by assumption)))) | rfl | (exact Or.inl rfl) | (exact Or.inr rfl) | omega | (exact Nat.le_of_ble_eq_true rfl) | decide | (exact ⟨by decide, rfl, by decide⟩)) (by first | assumption | (exact mL_get (by decide)) | (rw [mL_len]; decide) | (simp only [mL_set]; exact mL_get (by decide)) | (simp only [mL_set, mL_len]; decide) | (exact va_eq) | (exact (va_ne (by omega)).trans (by assumption)) | (exact (va_ne (by omega)).trans va_eq) | (exact (va_ne (by omega)).trans ((va_ne (by omega)).trans (by assumption))) | (exact (va_ne (by omega)).trans ((va_ne (by omega)).trans ((va_ne (by omega)).trans (by assumption)))) | rfl | (exact Or.inl rfl) | (exact Or.inr rfl) | omega | (exact Nat.le_of_ble_eq_true rfl) | decide | (exact ⟨by decide, rfl, by decide⟩)) (by first | assumption | (exact mL_get (by decide)) | (rw [mL_len]; decide) | (simp only [mL_set]; exact mL_get (by decide)) | (simp only [mL_set, mL_len]; decide) | (exact va_eq) | (exact (va_ne (by omega)).trans (by assumption)) | (exact (va_ne (by omega)).trans va_eq) | (exact (va_ne (by omega)).trans ((va_ne (by omega)).trans (by assumption))) | (exact (va_ne (by omega)).trans ((va_ne (by omega)).trans ((va_ne (by omega)).trans (by assumption)))) | rfl | (exact Or.inl rfl) | (exact Or.inr rfl) | omega | (exact Nat.le_of_ble_eq_true rfl) | decide | (exact ⟨by decide, rfl, by decide⟩)) ?_
  refine sq_party hn hz1 (fun z2 i2 σ2 hok2 hi2 h402 hy2 hg2 => ?_) (fun ze w hbad he => ?_)
  · have q505 := hy2.1.1
    have qAA := hy2.1.2.1 (510, 800) (by decide)
    have qAD := hy2.1.2.1 (512, 800) (by decide)
    rw [hok2, ms_eb_ok] at hsp
    have hl2 := hg2.1.1
    have hl72 := (ms_pa_n hok2).1
    have hl82 := hy2.2.2.2.2.1.2
    have hA := ((hg2.kp (m := σ0.n) (by omega)).1 509 (by decide)).trans hA
    refine b_163_373 _ _ _ _ _ _ (by first | assumption | (exact mL_get (by decide)) | (rw [mL_len]; decide) | (simp only [mL_set]; exact mL_get (by decide)) | (simp only [mL_set, mL_len]; decide) | (exact va_eq) | (exact (va_ne (by omega)).trans (by assumption)) | (exact (va_ne (by omega)).trans va_eq) | (exact (va_ne (by omega)).trans ((va_ne (by omega)).trans (by assumption))) | (exact (va_ne (by omega)).trans ((va_ne (by omega)).trans ((va_ne (by omega)).trans (by assumption)))) | rfl | (exact Or.inl rfl) | (exact Or.inr rfl) | omega | (exact Nat.le_of_ble_eq_true rfl) | decide | (exact ⟨by decide, rfl, by decide⟩)) (by first | assumption | (exact mL_get (by decide)) | (rw [mL_len]; decide) | (simp only [mL_set]; exact mL_get (by decide)) | (simp only [mL_set, mL_len]; decide) | (exact va_eq) | (exact (va_ne (by omega)).trans (by assumption)) | (exact (va_ne (by omega)).trans va_eq) | (exact (va_ne (by omega)).trans ((va_ne (by omega)).trans (by assumption))) | (exact (va_ne (by omega)).trans ((va_ne (by omega)).trans ((va_ne (by omega)).trans (by assumption)))) | rfl | (exact Or.inl rfl) | (exact Or.inr rfl) | omega | (exact Nat.le_of_ble_eq_true rfl) | decide | (exact ⟨by decide, rfl, by decide⟩)) (by first | assumption | (exact mL_get (by decide)) | (rw [mL_len]; decide) | (simp only [mL_set]; exact mL_get (by decide)) | (simp only [mL_set, mL_len]; decide) | (exact va_eq) | (exact (va_ne (by omega)).trans (by assumption)) | (exact (va_ne (by omega)).trans va_eq) | (exact (va_ne (by omega)).trans ((va_ne (by omega)).trans (by assumption))) | (exact (va_ne (by omega)).trans ((va_ne (by omega)).trans ((va_ne (by omega)).trans (by assumption)))) | rfl | (exact Or.inl rfl) | (exact Or.inr rfl) | omega | (exact Nat.le_of_ble_eq_true rfl) | decide | (exact ⟨by decide, rfl, by decide⟩)) ?_ ?_
    · intro z373
      first | (exact absurd z373 (by decide)) | (exact absurd (by decide) z373) | (exact absurd rfl z373) | (exact absurd z373 (of_nn (by omega))) | (exact absurd (of_np (by omega)) z373) | omega
    · intro z373
      show mi_W _ _ _ _ _ (n, sl, (mr_w 510 σ0.n (Int32.ofNat i2) z2).f) _
      have hz2 := mr_w_st (q := 510) (m := σ0.n) (v := Int32.ofNat i2) hy2 (by decide)
      have hg0 := (hg0.trans hg2).w (q := 510) (m := σ0.n) (v := Int32.ofNat i2) (by decide) (Nat.le_refl _)
      have hA := (mr_w_ne (q := 510) (m := σ0.n) (v := Int32.ofNat i2) (z := z2) (q' := 509) (i := σ0.n) (fun e => absurd e.1 (by decide))).trans hA
      have hF2 := mr_w_at (q := 510) (m := σ0.n) (v := Int32.ofNat i2) (z := z2)
      generalize hw2 : mr_w 510 σ0.n (Int32.ofNat i2) z2 = w2 at *
      have q505 := hz2.1.1
      refine b_163_378 _ _ _ (by first | assumption | (exact mL_get (by decide)) | (rw [mL_len]; decide) | (simp only [mL_set]; exact mL_get (by decide)) | (simp only [mL_set, mL_len]; decide) | (exact va_eq) | (exact (va_ne (by omega)).trans (by assumption)) | (exact (va_ne (by omega)).trans va_eq) | (exact (va_ne (by omega)).trans ((va_ne (by omega)).trans (by assumption))) | (exact (va_ne (by omega)).trans ((va_ne (by omega)).trans ((va_ne (by omega)).trans (by assumption)))) | rfl | (exact Or.inl rfl) | (exact Or.inr rfl) | omega | (exact Nat.le_of_ble_eq_true rfl) | decide | (exact ⟨by decide, rfl, by decide⟩)) (by first | assumption | (exact mL_get (by decide)) | (rw [mL_len]; decide) | (simp only [mL_set]; exact mL_get (by decide)) | (simp only [mL_set, mL_len]; decide) | (exact va_eq) | (exact (va_ne (by omega)).trans (by assumption)) | (exact (va_ne (by omega)).trans va_eq) | (exact (va_ne (by omega)).trans ((va_ne (by omega)).trans (by assumption))) | (exact (va_ne (by omega)).trans ((va_ne (by omega)).trans ((va_ne (by omega)).trans (by assumption)))) | rfl | (exact Or.inl rfl) | (exact Or.inr rfl) | omega | (exact Nat.le_of_ble_eq_true rfl) | decide | (exact ⟨by decide, rfl, by decide⟩)) (by first | assumption | (exact mL_get (by decide)) | (rw [mL_len]; decide) | (simp only [mL_set]; exact mL_get (by decide)) | (simp only [mL_set, mL_len]; decide) | (exact va_eq) | (exact (va_ne (by omega)).trans (by assumption)) | (exact (va_ne (by omega)).trans va_eq) | (exact (va_ne (by omega)).trans ((va_ne (by omega)).trans (by assumption))) | (exact (va_ne (by omega)).trans ((va_ne (by omega)).trans ((va_ne (by omega)).trans (by assumption)))) | rfl | (exact Or.inl rfl) | (exact Or.inr rfl) | omega | (exact Nat.le_of_ble_eq_true rfl) | decide | (exact ⟨by decide, rfl, by decide⟩)) (by first | assumption | (exact mL_get (by decide)) | (rw [mL_len]; decide) | (simp only [mL_set]; exact mL_get (by decide)) | (simp only [mL_set, mL_len]; decide) | (exact va_eq) | (exact (va_ne (by omega)).trans (by assumption)) | (exact (va_ne (by omega)).trans va_eq) | (exact (va_ne (by omega)).trans ((va_ne (by omega)).trans (by assumption))) | (exact (va_ne (by omega)).trans ((va_ne (by omega)).trans ((va_ne (by omega)).trans (by assumption)))) | rfl | (exact Or.inl rfl) | (exact Or.inr rfl) | omega | (exact Nat.le_of_ble_eq_true rfl) | decide | (exact ⟨by decide, rfl, by decide⟩)) (by first | assumption | (exact mL_get (by decide)) | (rw [mL_len]; decide) | (simp only [mL_set]; exact mL_get (by decide)) | (simp only [mL_set, mL_len]; decide) | (exact va_eq) | (exact (va_ne (by omega)).trans (by assumption)) | (exact (va_ne (by omega)).trans va_eq) | (exact (va_ne (by omega)).trans ((va_ne (by omega)).trans (by assumption))) | (exact (va_ne (by omega)).trans ((va_ne (by omega)).trans ((va_ne (by omega)).trans (by assumption)))) | rfl | (exact Or.inl rfl) | (exact Or.inr rfl) | omega | (exact Nat.le_of_ble_eq_true rfl) | decide | (exact ⟨by decide, rfl, by decide⟩)) ?_
      refine sq_token hn hz2 (fun z3 i3 σ3 hok3 hi3 h403 hy3 hg3 => ?_) (fun ze w hbad he => ?_)
      · have q505 := hy3.1.1
        have qAA := hy3.1.2.1 (510, 800) (by decide)
        have qAD := hy3.1.2.1 (512, 800) (by decide)
        rw [hok3, ms_eb_ok] at hsp
        have hl3 := hg3.1.1
        have hl73 := (ms_to_n hok3).1
        have hl83 := hy3.2.2.2.2.1.2
        have hA := ((hg3.kp (m := σ0.n) (by omega)).1 509 (by decide)).trans hA
        have hF2 := ((hg3.kp (m := σ0.n) (by omega)).1 510 (by decide)).trans hF2
        refine b_163_387 _ _ _ _ _ _ (by first | assumption | (exact mL_get (by decide)) | (rw [mL_len]; decide) | (simp only [mL_set]; exact mL_get (by decide)) | (simp only [mL_set, mL_len]; decide) | (exact va_eq) | (exact (va_ne (by omega)).trans (by assumption)) | (exact (va_ne (by omega)).trans va_eq) | (exact (va_ne (by omega)).trans ((va_ne (by omega)).trans (by assumption))) | (exact (va_ne (by omega)).trans ((va_ne (by omega)).trans ((va_ne (by omega)).trans (by assumption)))) | rfl | (exact Or.inl rfl) | (exact Or.inr rfl) | omega | (exact Nat.le_of_ble_eq_true rfl) | decide | (exact ⟨by decide, rfl, by decide⟩)) (by first | assumption | (exact mL_get (by decide)) | (rw [mL_len]; decide) | (simp only [mL_set]; exact mL_get (by decide)) | (simp only [mL_set, mL_len]; decide) | (exact va_eq) | (exact (va_ne (by omega)).trans (by assumption)) | (exact (va_ne (by omega)).trans va_eq) | (exact (va_ne (by omega)).trans ((va_ne (by omega)).trans (by assumption))) | (exact (va_ne (by omega)).trans ((va_ne (by omega)).trans ((va_ne (by omega)).trans (by assumption)))) | rfl | (exact Or.inl rfl) | (exact Or.inr rfl) | omega | (exact Nat.le_of_ble_eq_true rfl) | decide | (exact ⟨by decide, rfl, by decide⟩)) (by first | assumption | (exact mL_get (by decide)) | (rw [mL_len]; decide) | (simp only [mL_set]; exact mL_get (by decide)) | (simp only [mL_set, mL_len]; decide) | (exact va_eq) | (exact (va_ne (by omega)).trans (by assumption)) | (exact (va_ne (by omega)).trans va_eq) | (exact (va_ne (by omega)).trans ((va_ne (by omega)).trans (by assumption))) | (exact (va_ne (by omega)).trans ((va_ne (by omega)).trans ((va_ne (by omega)).trans (by assumption)))) | rfl | (exact Or.inl rfl) | (exact Or.inr rfl) | omega | (exact Nat.le_of_ble_eq_true rfl) | decide | (exact ⟨by decide, rfl, by decide⟩)) ?_ ?_
        · intro z387
          first | (exact absurd z387 (by decide)) | (exact absurd (by decide) z387) | (exact absurd rfl z387) | (exact absurd z387 (of_nn (by omega))) | (exact absurd (of_np (by omega)) z387) | omega
        · intro z387
          show mi_W _ _ _ _ _ (n, sl, (mr_w 512 σ0.n (Int32.ofNat i3) z3).f) _
          have hz3 := mr_w_st (q := 512) (m := σ0.n) (v := Int32.ofNat i3) hy3 (by decide)
          have hg0 := (hg0.trans hg3).w (q := 512) (m := σ0.n) (v := Int32.ofNat i3) (by decide) (Nat.le_refl _)
          have hA := (mr_w_ne (q := 512) (m := σ0.n) (v := Int32.ofNat i3) (z := z3) (q' := 509) (i := σ0.n) (fun e => absurd e.1 (by decide))).trans hA
          have hF2 := (mr_w_ne (q := 512) (m := σ0.n) (v := Int32.ofNat i3) (z := z3) (q' := 510) (i := σ0.n) (fun e => absurd e.1 (by decide))).trans hF2
          have hF3 := mr_w_at (q := 512) (m := σ0.n) (v := Int32.ofNat i3) (z := z3)
          generalize hw3 : mr_w 512 σ0.n (Int32.ofNat i3) z3 = w3 at *
          have q505 := hz3.1.1
          refine b_163_392 _ _ _ ?_
          refine b_163_397 _ _ _ ?_
          refine sq_fN (op := op) hn hz3 hj (fun hzf => ?_)
          have ht : (σ3.set σ0.n (op, i2, 0, i3, 0, 0, 0, 0, 0, 0)).tb σ0.n = (op, i2, 0, i3, 0, 0, 0, 0, 0, 0) := va_eq
          refine ok _ (σ3.set σ0.n (op, i2, 0, i3, 0, 0, 0, 0, 0, 0)) hsp h403 hzf ((hg0.x22).set (Nat.le_refl _)) ?_ ?_
          · intro i hi1 hi2
            have hi2 : i < σ3.n := hi2
            by_cases ei : i = σ0.n
            · rw [ei, ht]
              rcases hop with rfl
              all_goals exact ⟨hA, fun _ => hF2, mz_nf, fun _ => hF3, mz_nf, mz_nf, mz_nf, mz_nf, mz_nf, mz_nf, mz_nf, mz_nf, mz_nf, mz_nf, mz_nf⟩
            · have hte : (σ3.set σ0.n (op, i2, 0, i3, 0, 0, 0, 0, 0, 0)).tb i = σ3.tb i := va_ne ei
              rw [hte]
              omega
          · unfold mz_ok
            rw [ht]
            rcases hop with rfl
            all_goals exact ⟨by show σ0.n < σ3.n; omega, rfl, ⟨fun _ => hi2, mz_nf, fun _ => hi3⟩, fun h => h.elim mz_nf mz_nf, mz_nf, fun h => h.elim mz_nf (fun h => h.elim mz_nf mz_nf), mz_nf⟩
      · have hbadF : ms_bad (ms_E g L (j + 1) false σ0) w := by rw [hsp]; exact hbad.bind (fun x σ' h => by exact ⟨h, rfl⟩)
        have q505 := he.1.1
        have qAA := he.1.2.1 (510, 800) (by decide)
        have qAD := he.1.2.1 (512, 800) (by decide)
        have he0 := hg0.er he
        refine b_163_387 _ _ _ _ _ _ (by first | assumption | (exact mL_get (by decide)) | (rw [mL_len]; decide) | (simp only [mL_set]; exact mL_get (by decide)) | (simp only [mL_set, mL_len]; decide) | (exact va_eq) | (exact (va_ne (by omega)).trans (by assumption)) | (exact (va_ne (by omega)).trans va_eq) | (exact (va_ne (by omega)).trans ((va_ne (by omega)).trans (by assumption))) | (exact (va_ne (by omega)).trans ((va_ne (by omega)).trans ((va_ne (by omega)).trans (by assumption)))) | rfl | (exact Or.inl rfl) | (exact Or.inr rfl) | omega | (exact Nat.le_of_ble_eq_true rfl) | decide | (exact ⟨by decide, rfl, by decide⟩)) (by first | assumption | (exact mL_get (by decide)) | (rw [mL_len]; decide) | (simp only [mL_set]; exact mL_get (by decide)) | (simp only [mL_set, mL_len]; decide) | (exact va_eq) | (exact (va_ne (by omega)).trans (by assumption)) | (exact (va_ne (by omega)).trans va_eq) | (exact (va_ne (by omega)).trans ((va_ne (by omega)).trans (by assumption))) | (exact (va_ne (by omega)).trans ((va_ne (by omega)).trans ((va_ne (by omega)).trans (by assumption)))) | rfl | (exact Or.inl rfl) | (exact Or.inr rfl) | omega | (exact Nat.le_of_ble_eq_true rfl) | decide | (exact ⟨by decide, rfl, by decide⟩)) (by first | assumption | (exact mL_get (by decide)) | (rw [mL_len]; decide) | (simp only [mL_set]; exact mL_get (by decide)) | (simp only [mL_set, mL_len]; decide) | (exact va_eq) | (exact (va_ne (by omega)).trans (by assumption)) | (exact (va_ne (by omega)).trans va_eq) | (exact (va_ne (by omega)).trans ((va_ne (by omega)).trans (by assumption))) | (exact (va_ne (by omega)).trans ((va_ne (by omega)).trans ((va_ne (by omega)).trans (by assumption)))) | rfl | (exact Or.inl rfl) | (exact Or.inr rfl) | omega | (exact Nat.le_of_ble_eq_true rfl) | decide | (exact ⟨by decide, rfl, by decide⟩)) ?_ ?_
        · intro z387
          show mi_W _ _ _ _ _ (n, sl, (mr_w 512 σ0.n (-1) ze).f) _
          have he0 := mr_w_er (q := 512) (m := σ0.n) (v := -1) he0 (by decide)
          have q505 := he0.1.1
          refine b_163_396 _ _ _ ?_
          refine b_163_397 _ _ _ ?_
          exact sq_gN hn he0 (fun z' he' => er z' w hbadF he')
        · intro z387
          first | (exact absurd z387 (by decide)) | (exact absurd (by decide) z387) | (exact absurd rfl z387) | (exact absurd z387 (of_nn (by omega))) | (exact absurd (of_np (by omega)) z387) | omega
  · have hbadF : ms_bad (ms_E g L (j + 1) false σ0) w := by rw [hsp]; exact hbad.bind (fun x σ' h => by rw [ms_to_odd h, ms_eb_er]; exact rfl)
    have q505 := he.1.1
    have qAA := he.1.2.1 (510, 800) (by decide)
    have qAD := he.1.2.1 (512, 800) (by decide)
    have he0 := hg0.er he
    refine b_163_373 _ _ _ _ _ _ (by first | assumption | (exact mL_get (by decide)) | (rw [mL_len]; decide) | (simp only [mL_set]; exact mL_get (by decide)) | (simp only [mL_set, mL_len]; decide) | (exact va_eq) | (exact (va_ne (by omega)).trans (by assumption)) | (exact (va_ne (by omega)).trans va_eq) | (exact (va_ne (by omega)).trans ((va_ne (by omega)).trans (by assumption))) | (exact (va_ne (by omega)).trans ((va_ne (by omega)).trans ((va_ne (by omega)).trans (by assumption)))) | rfl | (exact Or.inl rfl) | (exact Or.inr rfl) | omega | (exact Nat.le_of_ble_eq_true rfl) | decide | (exact ⟨by decide, rfl, by decide⟩)) (by first | assumption | (exact mL_get (by decide)) | (rw [mL_len]; decide) | (simp only [mL_set]; exact mL_get (by decide)) | (simp only [mL_set, mL_len]; decide) | (exact va_eq) | (exact (va_ne (by omega)).trans (by assumption)) | (exact (va_ne (by omega)).trans va_eq) | (exact (va_ne (by omega)).trans ((va_ne (by omega)).trans (by assumption))) | (exact (va_ne (by omega)).trans ((va_ne (by omega)).trans ((va_ne (by omega)).trans (by assumption)))) | rfl | (exact Or.inl rfl) | (exact Or.inr rfl) | omega | (exact Nat.le_of_ble_eq_true rfl) | decide | (exact ⟨by decide, rfl, by decide⟩)) (by first | assumption | (exact mL_get (by decide)) | (rw [mL_len]; decide) | (simp only [mL_set]; exact mL_get (by decide)) | (simp only [mL_set, mL_len]; decide) | (exact va_eq) | (exact (va_ne (by omega)).trans (by assumption)) | (exact (va_ne (by omega)).trans va_eq) | (exact (va_ne (by omega)).trans ((va_ne (by omega)).trans (by assumption))) | (exact (va_ne (by omega)).trans ((va_ne (by omega)).trans ((va_ne (by omega)).trans (by assumption)))) | rfl | (exact Or.inl rfl) | (exact Or.inr rfl) | omega | (exact Nat.le_of_ble_eq_true rfl) | decide | (exact ⟨by decide, rfl, by decide⟩)) ?_ ?_
    · intro z373
      show mi_W _ _ _ _ _ (n, sl, (mr_w 510 σ0.n (-1) ze).f) _
      have he0 := mr_w_er (q := 510) (m := σ0.n) (v := -1) he0 (by decide)
      have q505 := he0.1.1
      refine b_163_396 _ _ _ ?_
      refine b_163_397 _ _ _ ?_
      exact sq_gN hn he0 (fun z' he' => er z' w hbadF he')
    · intro z373
      first | (exact absurd z373 (by decide)) | (exact absurd (by decide) z373) | (exact absurd rfl z373) | (exact absurd z373 (of_nn (by omega))) | (exact absurd (of_np (by omega)) z373) | omega
theorem sq_cN401 (hn : 575 ≤ n) (hd : j + 1 ≤ e) (hj : j < 100) (IH : mr_IE n sl s g L j) (hz1 : mr_st n s g L z1 (σ0.add.nx g L) j) (hg0 : mr_go z0 σ0 z1 (σ0.add.nx g L)) (h401 : ¬ (σ0.add.nx g L).t.k = 40) (hA : z1.I 509 σ0.n = Int32.ofNat op) (hop : op = 12) (hsp : ms_E g L (j + 1) false σ0 = ms_bd g L (ms_E g L j) op σ0.n σ0.t.v (σ0.add.nx g L)) (ok : mr_okE n sl s g L Q z0 σ0 (j + 1) false) (er : mr_erE n sl s g L Q z0 σ0 (j + 1) false) : mi_W (e + 14) 163 401 [some (.ref 505), some (.int (Int32.ofNat op)), some (.int (Int32.ofNat σ0.n)), some (.int 1)] [] (n, sl, z1.f) Q := by
  have hn80 : (σ0.add.nx g L).n ≤ 800 := hz1.2.2.2.2.1.2
  have hn1 : (σ0.add.nx g L).n = σ0.n + 1 := rfl
  have hm8 : σ0.n < 800 := by omega
  have hxm := ix_of (w := σ0.n) (m := 800) (by omega) (by omega)
  rw [ms_bd2 (by rcases hop with rfl <;> rfl)] at hsp
  generalize hσ1 : σ0.add.nx g L = σ1 at *
  have q505 := hz1.1.1
  have qAA := hz1.1.2.1 (510, 800) (by decide)
  refine b_163_401 _ _ _ (by first | assumption | (exact mL_get (by decide)) | (rw [mL_len]; decide) | (simp only [mL_set]; exact mL_get (by decide)) | (simp only [mL_set, mL_len]; decide) | (exact va_eq) | (exact (va_ne (by omega)).trans (by assumption)) | (exact (va_ne (by omega)).trans va_eq) | (exact (va_ne (by omega)).trans ((va_ne (by omega)).trans (by assumption))) | (exact (va_ne (by omega)).trans ((va_ne (by omega)).trans ((va_ne (by omega)).trans (by assumption)))) | rfl | (exact Or.inl rfl) | (exact Or.inr rfl) | omega | (exact Nat.le_of_ble_eq_true rfl) | decide | (exact ⟨by decide, rfl, by decide⟩)) (by first | assumption | (exact mL_get (by decide)) | (rw [mL_len]; decide) | (simp only [mL_set]; exact mL_get (by decide)) | (simp only [mL_set, mL_len]; decide) | (exact va_eq) | (exact (va_ne (by omega)).trans (by assumption)) | (exact (va_ne (by omega)).trans va_eq) | (exact (va_ne (by omega)).trans ((va_ne (by omega)).trans (by assumption))) | (exact (va_ne (by omega)).trans ((va_ne (by omega)).trans ((va_ne (by omega)).trans (by assumption)))) | rfl | (exact Or.inl rfl) | (exact Or.inr rfl) | omega | (exact Nat.le_of_ble_eq_true rfl) | decide | (exact ⟨by decide, rfl, by decide⟩)) (by first | assumption | (exact mL_get (by decide)) | (rw [mL_len]; decide) | (simp only [mL_set]; exact mL_get (by decide)) | (simp only [mL_set, mL_len]; decide) | (exact va_eq) | (exact (va_ne (by omega)).trans (by assumption)) | (exact (va_ne (by omega)).trans va_eq) | (exact (va_ne (by omega)).trans ((va_ne (by omega)).trans (by assumption))) | (exact (va_ne (by omega)).trans ((va_ne (by omega)).trans ((va_ne (by omega)).trans (by assumption)))) | rfl | (exact Or.inl rfl) | (exact Or.inr rfl) | omega | (exact Nat.le_of_ble_eq_true rfl) | decide | (exact ⟨by decide, rfl, by decide⟩)) (by first | assumption | (exact mL_get (by decide)) | (rw [mL_len]; decide) | (simp only [mL_set]; exact mL_get (by decide)) | (simp only [mL_set, mL_len]; decide) | (exact va_eq) | (exact (va_ne (by omega)).trans (by assumption)) | (exact (va_ne (by omega)).trans va_eq) | (exact (va_ne (by omega)).trans ((va_ne (by omega)).trans (by assumption))) | (exact (va_ne (by omega)).trans ((va_ne (by omega)).trans ((va_ne (by omega)).trans (by assumption)))) | rfl | (exact Or.inl rfl) | (exact Or.inr rfl) | omega | (exact Nat.le_of_ble_eq_true rfl) | decide | (exact ⟨by decide, rfl, by decide⟩)) (by first | assumption | (exact mL_get (by decide)) | (rw [mL_len]; decide) | (simp only [mL_set]; exact mL_get (by decide)) | (simp only [mL_set, mL_len]; decide) | (exact va_eq) | (exact (va_ne (by omega)).trans (by assumption)) | (exact (va_ne (by omega)).trans va_eq) | (exact (va_ne (by omega)).trans ((va_ne (by omega)).trans (by assumption))) | (exact (va_ne (by omega)).trans ((va_ne (by omega)).trans ((va_ne (by omega)).trans (by assumption)))) | rfl | (exact Or.inl rfl) | (exact Or.inr rfl) | omega | (exact Nat.le_of_ble_eq_true rfl) | decide | (exact ⟨by decide, rfl, by decide⟩)) ?_
  refine IH false _ _ _ _ (by omega) hz1 (fun z2 σ2 hok2 h402 hy2 hg2 hr2 hm2 => ?_) (fun ze w hbad he => ?_)
  · have q505 := hy2.1.1
    have qAA := hy2.1.2.1 (510, 800) (by decide)
    rw [hok2, ms_eb_ok] at hsp
    have hl2 := hg2.1.1
    have hl82 := hy2.2.2.2.2.1.2
    have hA := ((hg2.kp (m := σ0.n) (by omega)).1 509 (by decide)).trans hA
    refine b_163_410 _ _ _ _ _ _ (by first | assumption | (exact mL_get (by decide)) | (rw [mL_len]; decide) | (simp only [mL_set]; exact mL_get (by decide)) | (simp only [mL_set, mL_len]; decide) | (exact va_eq) | (exact (va_ne (by omega)).trans (by assumption)) | (exact (va_ne (by omega)).trans va_eq) | (exact (va_ne (by omega)).trans ((va_ne (by omega)).trans (by assumption))) | (exact (va_ne (by omega)).trans ((va_ne (by omega)).trans ((va_ne (by omega)).trans (by assumption)))) | rfl | (exact Or.inl rfl) | (exact Or.inr rfl) | omega | (exact Nat.le_of_ble_eq_true rfl) | decide | (exact ⟨by decide, rfl, by decide⟩)) (by first | assumption | (exact mL_get (by decide)) | (rw [mL_len]; decide) | (simp only [mL_set]; exact mL_get (by decide)) | (simp only [mL_set, mL_len]; decide) | (exact va_eq) | (exact (va_ne (by omega)).trans (by assumption)) | (exact (va_ne (by omega)).trans va_eq) | (exact (va_ne (by omega)).trans ((va_ne (by omega)).trans (by assumption))) | (exact (va_ne (by omega)).trans ((va_ne (by omega)).trans ((va_ne (by omega)).trans (by assumption)))) | rfl | (exact Or.inl rfl) | (exact Or.inr rfl) | omega | (exact Nat.le_of_ble_eq_true rfl) | decide | (exact ⟨by decide, rfl, by decide⟩)) (by first | assumption | (exact mL_get (by decide)) | (rw [mL_len]; decide) | (simp only [mL_set]; exact mL_get (by decide)) | (simp only [mL_set, mL_len]; decide) | (exact va_eq) | (exact (va_ne (by omega)).trans (by assumption)) | (exact (va_ne (by omega)).trans va_eq) | (exact (va_ne (by omega)).trans ((va_ne (by omega)).trans (by assumption))) | (exact (va_ne (by omega)).trans ((va_ne (by omega)).trans ((va_ne (by omega)).trans (by assumption)))) | rfl | (exact Or.inl rfl) | (exact Or.inr rfl) | omega | (exact Nat.le_of_ble_eq_true rfl) | decide | (exact ⟨by decide, rfl, by decide⟩)) ?_ ?_
    · intro z410
      first | (exact absurd z410 (by decide)) | (exact absurd (by decide) z410) | (exact absurd rfl z410) | (exact absurd z410 (of_nn (by omega))) | (exact absurd (of_np (by omega)) z410) | omega
    · intro z410
      show mi_W _ _ _ _ _ (n, sl, (mr_w 510 σ0.n (Int32.ofNat σ1.n) z2).f) _
      have hz2 := mr_w_st (q := 510) (m := σ0.n) (v := Int32.ofNat σ1.n) hy2 (by decide)
      have hg0 := (hg0.trans hg2).w (q := 510) (m := σ0.n) (v := Int32.ofNat σ1.n) (by decide) (Nat.le_refl _)
      have hA := (mr_w_ne (q := 510) (m := σ0.n) (v := Int32.ofNat σ1.n) (z := z2) (q' := 509) (i := σ0.n) (fun e => absurd e.1 (by decide))).trans hA
      have hF2 := mr_w_at (q := 510) (m := σ0.n) (v := Int32.ofNat σ1.n) (z := z2)
      have hr2 := mr_w_rg (q := 510) (m := σ0.n) (v := Int32.ofNat σ1.n) hr2 (by omega)
      generalize hw2 : mr_w 510 σ0.n (Int32.ofNat σ1.n) z2 = w2 at *
      have q505 := hz2.1.1
      refine b_163_415 _ _ _ ?_
      refine b_163_420 _ _ _ ?_
      refine sq_fN (op := op) hn hz2 hj (fun hzf => ?_)
      have ht : (σ2.set σ0.n (op, 0, 0, 0, 0, σ1.n, 0, 0, 0, 0)).tb σ0.n = (op, 0, 0, 0, 0, σ1.n, 0, 0, 0, 0) := va_eq
      refine ok _ (σ2.set σ0.n (op, 0, 0, 0, 0, σ1.n, 0, 0, 0, 0)) hsp h402 hzf ((hg0.x22).set (Nat.le_refl _)) ?_ ?_
      · intro i hi1 hi2
        have hi2 : i < σ2.n := hi2
        by_cases ei : i = σ0.n
        · rw [ei, ht]
          rcases hop with rfl
          all_goals exact ⟨hA, mz_nf, mz_nf, mz_nf, mz_nf, mz_nf, fun _ => hF2, mz_nf, mz_nf, mz_nf, mz_nf, mz_nf, mz_nf, mz_nf, mz_nf⟩
        · have hte : (σ2.set σ0.n (op, 0, 0, 0, 0, σ1.n, 0, 0, 0, 0)).tb i = σ2.tb i := va_ne ei
          rw [hte]
          exact (hr2 i (by omega) (by omega)).kp mr_x22_kp
      · unfold mz_ok
        rw [ht]
        rcases hop with rfl
        all_goals exact ⟨by show σ0.n < σ2.n; omega, rfl, ⟨mz_nf, mz_nf, mz_nf⟩, fun _ => ⟨by show σ0.n < σ1.n; omega, hm2.set (by omega)⟩, mz_nf, fun h => h.elim mz_nf (fun h => h.elim mz_nf mz_nf), mz_nf⟩
  · have hbadF : ms_bad (ms_E g L (j + 1) false σ0) w := by rw [hsp]; exact hbad.bind (fun x σ' h => by exact ⟨h, rfl⟩)
    have q505 := he.1.1
    have qAA := he.1.2.1 (510, 800) (by decide)
    have he0 := hg0.er he
    refine b_163_410 _ _ _ _ _ _ (by first | assumption | (exact mL_get (by decide)) | (rw [mL_len]; decide) | (simp only [mL_set]; exact mL_get (by decide)) | (simp only [mL_set, mL_len]; decide) | (exact va_eq) | (exact (va_ne (by omega)).trans (by assumption)) | (exact (va_ne (by omega)).trans va_eq) | (exact (va_ne (by omega)).trans ((va_ne (by omega)).trans (by assumption))) | (exact (va_ne (by omega)).trans ((va_ne (by omega)).trans ((va_ne (by omega)).trans (by assumption)))) | rfl | (exact Or.inl rfl) | (exact Or.inr rfl) | omega | (exact Nat.le_of_ble_eq_true rfl) | decide | (exact ⟨by decide, rfl, by decide⟩)) (by first | assumption | (exact mL_get (by decide)) | (rw [mL_len]; decide) | (simp only [mL_set]; exact mL_get (by decide)) | (simp only [mL_set, mL_len]; decide) | (exact va_eq) | (exact (va_ne (by omega)).trans (by assumption)) | (exact (va_ne (by omega)).trans va_eq) | (exact (va_ne (by omega)).trans ((va_ne (by omega)).trans (by assumption))) | (exact (va_ne (by omega)).trans ((va_ne (by omega)).trans ((va_ne (by omega)).trans (by assumption)))) | rfl | (exact Or.inl rfl) | (exact Or.inr rfl) | omega | (exact Nat.le_of_ble_eq_true rfl) | decide | (exact ⟨by decide, rfl, by decide⟩)) (by first | assumption | (exact mL_get (by decide)) | (rw [mL_len]; decide) | (simp only [mL_set]; exact mL_get (by decide)) | (simp only [mL_set, mL_len]; decide) | (exact va_eq) | (exact (va_ne (by omega)).trans (by assumption)) | (exact (va_ne (by omega)).trans va_eq) | (exact (va_ne (by omega)).trans ((va_ne (by omega)).trans (by assumption))) | (exact (va_ne (by omega)).trans ((va_ne (by omega)).trans ((va_ne (by omega)).trans (by assumption)))) | rfl | (exact Or.inl rfl) | (exact Or.inr rfl) | omega | (exact Nat.le_of_ble_eq_true rfl) | decide | (exact ⟨by decide, rfl, by decide⟩)) ?_ ?_
    · intro z410
      show mi_W _ _ _ _ _ (n, sl, (mr_w 510 σ0.n (-1) ze).f) _
      have he0 := mr_w_er (q := 510) (m := σ0.n) (v := -1) he0 (by decide)
      have q505 := he0.1.1
      refine b_163_419 _ _ _ ?_
      refine b_163_420 _ _ _ ?_
      exact sq_gN hn he0 (fun z' he' => er z' w hbadF he')
    · intro z410
      first | (exact absurd z410 (by decide)) | (exact absurd (by decide) z410) | (exact absurd rfl z410) | (exact absurd z410 (of_nn (by omega))) | (exact absurd (of_np (by omega)) z410) | omega
theorem sq_cN424 (hn : 575 ≤ n) (hd : j + 1 ≤ e) (hj : j < 100) (IH : mr_IE n sl s g L j) (hz1 : mr_st n s g L z1 (σ0.add.nx g L) j) (hg0 : mr_go z0 σ0 z1 (σ0.add.nx g L)) (h401 : ¬ (σ0.add.nx g L).t.k = 40) (hA : z1.I 509 σ0.n = Int32.ofNat op) (hop : op = 13 ∨ op = 14 ∨ op = 15 ∨ op = 16) (hsp : ms_E g L (j + 1) false σ0 = ms_bd g L (ms_E g L j) op σ0.n σ0.t.v (σ0.add.nx g L)) (ok : mr_okE n sl s g L Q z0 σ0 (j + 1) false) (er : mr_erE n sl s g L Q z0 σ0 (j + 1) false) : mi_W (e + 14) 163 424 [some (.ref 505), some (.int (Int32.ofNat op)), some (.int (Int32.ofNat σ0.n)), some (.int 1)] [] (n, sl, z1.f) Q := by
  have hn80 : (σ0.add.nx g L).n ≤ 800 := hz1.2.2.2.2.1.2
  have hn1 : (σ0.add.nx g L).n = σ0.n + 1 := rfl
  have hm8 : σ0.n < 800 := by omega
  have hxm := ix_of (w := σ0.n) (m := 800) (by omega) (by omega)
  rw [ms_bd3 (by rcases hop with rfl | rfl | rfl | rfl <;> rfl)] at hsp
  generalize hσ1 : σ0.add.nx g L = σ1 at *
  have q505 := hz1.1.1
  have qAA := hz1.1.2.1 (510, 800) (by decide)
  have qAB := hz1.1.2.1 (511, 800) (by decide)
  refine b_163_424 _ _ _ (by first | assumption | (exact mL_get (by decide)) | (rw [mL_len]; decide) | (simp only [mL_set]; exact mL_get (by decide)) | (simp only [mL_set, mL_len]; decide) | (exact va_eq) | (exact (va_ne (by omega)).trans (by assumption)) | (exact (va_ne (by omega)).trans va_eq) | (exact (va_ne (by omega)).trans ((va_ne (by omega)).trans (by assumption))) | (exact (va_ne (by omega)).trans ((va_ne (by omega)).trans ((va_ne (by omega)).trans (by assumption)))) | rfl | (exact Or.inl rfl) | (exact Or.inr rfl) | omega | (exact Nat.le_of_ble_eq_true rfl) | decide | (exact ⟨by decide, rfl, by decide⟩)) (by first | assumption | (exact mL_get (by decide)) | (rw [mL_len]; decide) | (simp only [mL_set]; exact mL_get (by decide)) | (simp only [mL_set, mL_len]; decide) | (exact va_eq) | (exact (va_ne (by omega)).trans (by assumption)) | (exact (va_ne (by omega)).trans va_eq) | (exact (va_ne (by omega)).trans ((va_ne (by omega)).trans (by assumption))) | (exact (va_ne (by omega)).trans ((va_ne (by omega)).trans ((va_ne (by omega)).trans (by assumption)))) | rfl | (exact Or.inl rfl) | (exact Or.inr rfl) | omega | (exact Nat.le_of_ble_eq_true rfl) | decide | (exact ⟨by decide, rfl, by decide⟩)) (by first | assumption | (exact mL_get (by decide)) | (rw [mL_len]; decide) | (simp only [mL_set]; exact mL_get (by decide)) | (simp only [mL_set, mL_len]; decide) | (exact va_eq) | (exact (va_ne (by omega)).trans (by assumption)) | (exact (va_ne (by omega)).trans va_eq) | (exact (va_ne (by omega)).trans ((va_ne (by omega)).trans (by assumption))) | (exact (va_ne (by omega)).trans ((va_ne (by omega)).trans ((va_ne (by omega)).trans (by assumption)))) | rfl | (exact Or.inl rfl) | (exact Or.inr rfl) | omega | (exact Nat.le_of_ble_eq_true rfl) | decide | (exact ⟨by decide, rfl, by decide⟩)) (by first | assumption | (exact mL_get (by decide)) | (rw [mL_len]; decide) | (simp only [mL_set]; exact mL_get (by decide)) | (simp only [mL_set, mL_len]; decide) | (exact va_eq) | (exact (va_ne (by omega)).trans (by assumption)) | (exact (va_ne (by omega)).trans va_eq) | (exact (va_ne (by omega)).trans ((va_ne (by omega)).trans (by assumption))) | (exact (va_ne (by omega)).trans ((va_ne (by omega)).trans ((va_ne (by omega)).trans (by assumption)))) | rfl | (exact Or.inl rfl) | (exact Or.inr rfl) | omega | (exact Nat.le_of_ble_eq_true rfl) | decide | (exact ⟨by decide, rfl, by decide⟩)) (by first | assumption | (exact mL_get (by decide)) | (rw [mL_len]; decide) | (simp only [mL_set]; exact mL_get (by decide)) | (simp only [mL_set, mL_len]; decide) | (exact va_eq) | (exact (va_ne (by omega)).trans (by assumption)) | (exact (va_ne (by omega)).trans va_eq) | (exact (va_ne (by omega)).trans ((va_ne (by omega)).trans (by assumption))) | (exact (va_ne (by omega)).trans ((va_ne (by omega)).trans ((va_ne (by omega)).trans (by assumption)))) | rfl | (exact Or.inl rfl) | (exact Or.inr rfl) | omega | (exact Nat.le_of_ble_eq_true rfl) | decide | (exact ⟨by decide, rfl, by decide⟩)) ?_
  refine IH false _ _ _ _ (by omega) hz1 (fun z2 σ2 hok2 h402 hy2 hg2 hr2 hm2 => ?_) (fun ze w hbad he => ?_)
  · have q505 := hy2.1.1
    have qAA := hy2.1.2.1 (510, 800) (by decide)
    have qAB := hy2.1.2.1 (511, 800) (by decide)
    rw [hok2, ms_eb_ok] at hsp
    have hl2 := hg2.1.1
    have hl82 := hy2.2.2.2.2.1.2
    have hA := ((hg2.kp (m := σ0.n) (by omega)).1 509 (by decide)).trans hA
    refine b_163_433 _ _ _ _ _ _ (by first | assumption | (exact mL_get (by decide)) | (rw [mL_len]; decide) | (simp only [mL_set]; exact mL_get (by decide)) | (simp only [mL_set, mL_len]; decide) | (exact va_eq) | (exact (va_ne (by omega)).trans (by assumption)) | (exact (va_ne (by omega)).trans va_eq) | (exact (va_ne (by omega)).trans ((va_ne (by omega)).trans (by assumption))) | (exact (va_ne (by omega)).trans ((va_ne (by omega)).trans ((va_ne (by omega)).trans (by assumption)))) | rfl | (exact Or.inl rfl) | (exact Or.inr rfl) | omega | (exact Nat.le_of_ble_eq_true rfl) | decide | (exact ⟨by decide, rfl, by decide⟩)) (by first | assumption | (exact mL_get (by decide)) | (rw [mL_len]; decide) | (simp only [mL_set]; exact mL_get (by decide)) | (simp only [mL_set, mL_len]; decide) | (exact va_eq) | (exact (va_ne (by omega)).trans (by assumption)) | (exact (va_ne (by omega)).trans va_eq) | (exact (va_ne (by omega)).trans ((va_ne (by omega)).trans (by assumption))) | (exact (va_ne (by omega)).trans ((va_ne (by omega)).trans ((va_ne (by omega)).trans (by assumption)))) | rfl | (exact Or.inl rfl) | (exact Or.inr rfl) | omega | (exact Nat.le_of_ble_eq_true rfl) | decide | (exact ⟨by decide, rfl, by decide⟩)) (by first | assumption | (exact mL_get (by decide)) | (rw [mL_len]; decide) | (simp only [mL_set]; exact mL_get (by decide)) | (simp only [mL_set, mL_len]; decide) | (exact va_eq) | (exact (va_ne (by omega)).trans (by assumption)) | (exact (va_ne (by omega)).trans va_eq) | (exact (va_ne (by omega)).trans ((va_ne (by omega)).trans (by assumption))) | (exact (va_ne (by omega)).trans ((va_ne (by omega)).trans ((va_ne (by omega)).trans (by assumption)))) | rfl | (exact Or.inl rfl) | (exact Or.inr rfl) | omega | (exact Nat.le_of_ble_eq_true rfl) | decide | (exact ⟨by decide, rfl, by decide⟩)) ?_ ?_
    · intro z433
      first | (exact absurd z433 (by decide)) | (exact absurd (by decide) z433) | (exact absurd rfl z433) | (exact absurd z433 (of_nn (by omega))) | (exact absurd (of_np (by omega)) z433) | omega
    · intro z433
      show mi_W _ _ _ _ _ (n, sl, (mr_w 510 σ0.n (Int32.ofNat σ1.n) z2).f) _
      have hz2 := mr_w_st (q := 510) (m := σ0.n) (v := Int32.ofNat σ1.n) hy2 (by decide)
      have hg0 := (hg0.trans hg2).w (q := 510) (m := σ0.n) (v := Int32.ofNat σ1.n) (by decide) (Nat.le_refl _)
      have hA := (mr_w_ne (q := 510) (m := σ0.n) (v := Int32.ofNat σ1.n) (z := z2) (q' := 509) (i := σ0.n) (fun e => absurd e.1 (by decide))).trans hA
      have hF2 := mr_w_at (q := 510) (m := σ0.n) (v := Int32.ofNat σ1.n) (z := z2)
      have hr2 := mr_w_rg (q := 510) (m := σ0.n) (v := Int32.ofNat σ1.n) hr2 (by omega)
      generalize hw2 : mr_w 510 σ0.n (Int32.ofNat σ1.n) z2 = w2 at *
      have q505 := hz2.1.1
      refine b_163_438 _ _ _ (by first | assumption | (exact mL_get (by decide)) | (rw [mL_len]; decide) | (simp only [mL_set]; exact mL_get (by decide)) | (simp only [mL_set, mL_len]; decide) | (exact va_eq) | (exact (va_ne (by omega)).trans (by assumption)) | (exact (va_ne (by omega)).trans va_eq) | (exact (va_ne (by omega)).trans ((va_ne (by omega)).trans (by assumption))) | (exact (va_ne (by omega)).trans ((va_ne (by omega)).trans ((va_ne (by omega)).trans (by assumption)))) | rfl | (exact Or.inl rfl) | (exact Or.inr rfl) | omega | (exact Nat.le_of_ble_eq_true rfl) | decide | (exact ⟨by decide, rfl, by decide⟩)) (by first | assumption | (exact mL_get (by decide)) | (rw [mL_len]; decide) | (simp only [mL_set]; exact mL_get (by decide)) | (simp only [mL_set, mL_len]; decide) | (exact va_eq) | (exact (va_ne (by omega)).trans (by assumption)) | (exact (va_ne (by omega)).trans va_eq) | (exact (va_ne (by omega)).trans ((va_ne (by omega)).trans (by assumption))) | (exact (va_ne (by omega)).trans ((va_ne (by omega)).trans ((va_ne (by omega)).trans (by assumption)))) | rfl | (exact Or.inl rfl) | (exact Or.inr rfl) | omega | (exact Nat.le_of_ble_eq_true rfl) | decide | (exact ⟨by decide, rfl, by decide⟩)) (by first | assumption | (exact mL_get (by decide)) | (rw [mL_len]; decide) | (simp only [mL_set]; exact mL_get (by decide)) | (simp only [mL_set, mL_len]; decide) | (exact va_eq) | (exact (va_ne (by omega)).trans (by assumption)) | (exact (va_ne (by omega)).trans va_eq) | (exact (va_ne (by omega)).trans ((va_ne (by omega)).trans (by assumption))) | (exact (va_ne (by omega)).trans ((va_ne (by omega)).trans ((va_ne (by omega)).trans (by assumption)))) | rfl | (exact Or.inl rfl) | (exact Or.inr rfl) | omega | (exact Nat.le_of_ble_eq_true rfl) | decide | (exact ⟨by decide, rfl, by decide⟩)) (by first | assumption | (exact mL_get (by decide)) | (rw [mL_len]; decide) | (simp only [mL_set]; exact mL_get (by decide)) | (simp only [mL_set, mL_len]; decide) | (exact va_eq) | (exact (va_ne (by omega)).trans (by assumption)) | (exact (va_ne (by omega)).trans va_eq) | (exact (va_ne (by omega)).trans ((va_ne (by omega)).trans (by assumption))) | (exact (va_ne (by omega)).trans ((va_ne (by omega)).trans ((va_ne (by omega)).trans (by assumption)))) | rfl | (exact Or.inl rfl) | (exact Or.inr rfl) | omega | (exact Nat.le_of_ble_eq_true rfl) | decide | (exact ⟨by decide, rfl, by decide⟩)) (by first | assumption | (exact mL_get (by decide)) | (rw [mL_len]; decide) | (simp only [mL_set]; exact mL_get (by decide)) | (simp only [mL_set, mL_len]; decide) | (exact va_eq) | (exact (va_ne (by omega)).trans (by assumption)) | (exact (va_ne (by omega)).trans va_eq) | (exact (va_ne (by omega)).trans ((va_ne (by omega)).trans (by assumption))) | (exact (va_ne (by omega)).trans ((va_ne (by omega)).trans ((va_ne (by omega)).trans (by assumption)))) | rfl | (exact Or.inl rfl) | (exact Or.inr rfl) | omega | (exact Nat.le_of_ble_eq_true rfl) | decide | (exact ⟨by decide, rfl, by decide⟩)) ?_
      refine IH false _ _ _ _ (by omega) hz2 (fun z3 σ3 hok3 h403 hy3 hg3 hr3 hm3 => ?_) (fun ze w hbad he => ?_)
      · have q505 := hy3.1.1
        have qAA := hy3.1.2.1 (510, 800) (by decide)
        have qAB := hy3.1.2.1 (511, 800) (by decide)
        rw [hok3, ms_eb_ok] at hsp
        have hl3 := hg3.1.1
        have hl83 := hy3.2.2.2.2.1.2
        have hA := ((hg3.kp (m := σ0.n) (by omega)).1 509 (by decide)).trans hA
        have hF2 := ((hg3.kp (m := σ0.n) (by omega)).1 510 (by decide)).trans hF2
        have hr2 := hr2.go hg3 (Nat.le_refl _)
        have hm2 := hm2.go (hi' := σ3.n) hg3 (by omega) (by omega)
        refine b_163_447 _ _ _ _ _ _ (by first | assumption | (exact mL_get (by decide)) | (rw [mL_len]; decide) | (simp only [mL_set]; exact mL_get (by decide)) | (simp only [mL_set, mL_len]; decide) | (exact va_eq) | (exact (va_ne (by omega)).trans (by assumption)) | (exact (va_ne (by omega)).trans va_eq) | (exact (va_ne (by omega)).trans ((va_ne (by omega)).trans (by assumption))) | (exact (va_ne (by omega)).trans ((va_ne (by omega)).trans ((va_ne (by omega)).trans (by assumption)))) | rfl | (exact Or.inl rfl) | (exact Or.inr rfl) | omega | (exact Nat.le_of_ble_eq_true rfl) | decide | (exact ⟨by decide, rfl, by decide⟩)) (by first | assumption | (exact mL_get (by decide)) | (rw [mL_len]; decide) | (simp only [mL_set]; exact mL_get (by decide)) | (simp only [mL_set, mL_len]; decide) | (exact va_eq) | (exact (va_ne (by omega)).trans (by assumption)) | (exact (va_ne (by omega)).trans va_eq) | (exact (va_ne (by omega)).trans ((va_ne (by omega)).trans (by assumption))) | (exact (va_ne (by omega)).trans ((va_ne (by omega)).trans ((va_ne (by omega)).trans (by assumption)))) | rfl | (exact Or.inl rfl) | (exact Or.inr rfl) | omega | (exact Nat.le_of_ble_eq_true rfl) | decide | (exact ⟨by decide, rfl, by decide⟩)) (by first | assumption | (exact mL_get (by decide)) | (rw [mL_len]; decide) | (simp only [mL_set]; exact mL_get (by decide)) | (simp only [mL_set, mL_len]; decide) | (exact va_eq) | (exact (va_ne (by omega)).trans (by assumption)) | (exact (va_ne (by omega)).trans va_eq) | (exact (va_ne (by omega)).trans ((va_ne (by omega)).trans (by assumption))) | (exact (va_ne (by omega)).trans ((va_ne (by omega)).trans ((va_ne (by omega)).trans (by assumption)))) | rfl | (exact Or.inl rfl) | (exact Or.inr rfl) | omega | (exact Nat.le_of_ble_eq_true rfl) | decide | (exact ⟨by decide, rfl, by decide⟩)) ?_ ?_
        · intro z447
          first | (exact absurd z447 (by decide)) | (exact absurd (by decide) z447) | (exact absurd rfl z447) | (exact absurd z447 (of_nn (by omega))) | (exact absurd (of_np (by omega)) z447) | omega
        · intro z447
          show mi_W _ _ _ _ _ (n, sl, (mr_w 511 σ0.n (Int32.ofNat σ2.n) z3).f) _
          have hz3 := mr_w_st (q := 511) (m := σ0.n) (v := Int32.ofNat σ2.n) hy3 (by decide)
          have hg0 := (hg0.trans hg3).w (q := 511) (m := σ0.n) (v := Int32.ofNat σ2.n) (by decide) (Nat.le_refl _)
          have hA := (mr_w_ne (q := 511) (m := σ0.n) (v := Int32.ofNat σ2.n) (z := z3) (q' := 509) (i := σ0.n) (fun e => absurd e.1 (by decide))).trans hA
          have hF2 := (mr_w_ne (q := 511) (m := σ0.n) (v := Int32.ofNat σ2.n) (z := z3) (q' := 510) (i := σ0.n) (fun e => absurd e.1 (by decide))).trans hF2
          have hF3 := mr_w_at (q := 511) (m := σ0.n) (v := Int32.ofNat σ2.n) (z := z3)
          have hr2 := mr_w_rg (q := 511) (m := σ0.n) (v := Int32.ofNat σ2.n) hr2 (by omega)
          have hr3 := mr_w_rg (q := 511) (m := σ0.n) (v := Int32.ofNat σ2.n) hr3 (by omega)
          generalize hw3 : mr_w 511 σ0.n (Int32.ofNat σ2.n) z3 = w3 at *
          have q505 := hz3.1.1
          refine b_163_452 _ _ _ ?_
          refine b_163_457 _ _ _ ?_
          refine sq_fN (op := op) hn hz3 hj (fun hzf => ?_)
          have ht : (σ3.set σ0.n (op, 0, 0, 0, 0, σ1.n, σ2.n, 0, 0, 0)).tb σ0.n = (op, 0, 0, 0, 0, σ1.n, σ2.n, 0, 0, 0) := va_eq
          refine ok _ (σ3.set σ0.n (op, 0, 0, 0, 0, σ1.n, σ2.n, 0, 0, 0)) hsp h403 hzf ((hg0.x22).set (Nat.le_refl _)) ?_ ?_
          · intro i hi1 hi2
            have hi2 : i < σ3.n := hi2
            by_cases ei : i = σ0.n
            · rw [ei, ht]
              rcases hop with rfl | rfl | rfl | rfl
              all_goals exact ⟨hA, mz_nf, mz_nf, mz_nf, mz_nf, mz_nf, fun _ => hF2, mz_nf, mz_nf, mz_nf, fun _ => hF3, mz_nf, mz_nf, mz_nf, mz_nf⟩
            · have hte : (σ3.set σ0.n (op, 0, 0, 0, 0, σ1.n, σ2.n, 0, 0, 0)).tb i = σ3.tb i := va_ne ei
              rw [hte]
              rcases (by omega : i < σ2.n ∨ σ2.n ≤ i) with hh | hh
              · exact (hr2 i (by omega) (by omega)).kp mr_x22_kp
              · exact (hr3 i (by omega) (by omega)).kp mr_x22_kp
          · unfold mz_ok
            rw [ht]
            rcases hop with rfl | rfl | rfl | rfl
            all_goals exact ⟨by show σ0.n < σ3.n; omega, rfl, ⟨mz_nf, mz_nf, mz_nf⟩, fun _ => ⟨by show σ0.n < σ1.n; omega, hm2.set (by omega)⟩, mz_nf, fun _ => ⟨by show σ0.n < σ2.n; omega, hm3.set (by omega)⟩, mz_nf⟩
      · have hbadF : ms_bad (ms_E g L (j + 1) false σ0) w := by rw [hsp]; exact hbad.bind (fun x σ' h => by exact ⟨h, rfl⟩)
        have q505 := he.1.1
        have qAA := he.1.2.1 (510, 800) (by decide)
        have qAB := he.1.2.1 (511, 800) (by decide)
        have he0 := hg0.er he
        refine b_163_447 _ _ _ _ _ _ (by first | assumption | (exact mL_get (by decide)) | (rw [mL_len]; decide) | (simp only [mL_set]; exact mL_get (by decide)) | (simp only [mL_set, mL_len]; decide) | (exact va_eq) | (exact (va_ne (by omega)).trans (by assumption)) | (exact (va_ne (by omega)).trans va_eq) | (exact (va_ne (by omega)).trans ((va_ne (by omega)).trans (by assumption))) | (exact (va_ne (by omega)).trans ((va_ne (by omega)).trans ((va_ne (by omega)).trans (by assumption)))) | rfl | (exact Or.inl rfl) | (exact Or.inr rfl) | omega | (exact Nat.le_of_ble_eq_true rfl) | decide | (exact ⟨by decide, rfl, by decide⟩)) (by first | assumption | (exact mL_get (by decide)) | (rw [mL_len]; decide) | (simp only [mL_set]; exact mL_get (by decide)) | (simp only [mL_set, mL_len]; decide) | (exact va_eq) | (exact (va_ne (by omega)).trans (by assumption)) | (exact (va_ne (by omega)).trans va_eq) | (exact (va_ne (by omega)).trans ((va_ne (by omega)).trans (by assumption))) | (exact (va_ne (by omega)).trans ((va_ne (by omega)).trans ((va_ne (by omega)).trans (by assumption)))) | rfl | (exact Or.inl rfl) | (exact Or.inr rfl) | omega | (exact Nat.le_of_ble_eq_true rfl) | decide | (exact ⟨by decide, rfl, by decide⟩)) (by first | assumption | (exact mL_get (by decide)) | (rw [mL_len]; decide) | (simp only [mL_set]; exact mL_get (by decide)) | (simp only [mL_set, mL_len]; decide) | (exact va_eq) | (exact (va_ne (by omega)).trans (by assumption)) | (exact (va_ne (by omega)).trans va_eq) | (exact (va_ne (by omega)).trans ((va_ne (by omega)).trans (by assumption))) | (exact (va_ne (by omega)).trans ((va_ne (by omega)).trans ((va_ne (by omega)).trans (by assumption)))) | rfl | (exact Or.inl rfl) | (exact Or.inr rfl) | omega | (exact Nat.le_of_ble_eq_true rfl) | decide | (exact ⟨by decide, rfl, by decide⟩)) ?_ ?_
        · intro z447
          show mi_W _ _ _ _ _ (n, sl, (mr_w 511 σ0.n (-1) ze).f) _
          have he0 := mr_w_er (q := 511) (m := σ0.n) (v := -1) he0 (by decide)
          have q505 := he0.1.1
          refine b_163_456 _ _ _ ?_
          refine b_163_457 _ _ _ ?_
          exact sq_gN hn he0 (fun z' he' => er z' w hbadF he')
        · intro z447
          first | (exact absurd z447 (by decide)) | (exact absurd (by decide) z447) | (exact absurd rfl z447) | (exact absurd z447 (of_nn (by omega))) | (exact absurd (of_np (by omega)) z447) | omega
  · have hbadF : ms_bad (ms_E g L (j + 1) false σ0) w := by rw [hsp]; exact hbad.bind (fun x σ' h => by rw [ms_E_odd h, ms_eb_er]; exact rfl)
    have q505 := he.1.1
    have qAA := he.1.2.1 (510, 800) (by decide)
    have qAB := he.1.2.1 (511, 800) (by decide)
    have he0 := hg0.er he
    refine b_163_433 _ _ _ _ _ _ (by first | assumption | (exact mL_get (by decide)) | (rw [mL_len]; decide) | (simp only [mL_set]; exact mL_get (by decide)) | (simp only [mL_set, mL_len]; decide) | (exact va_eq) | (exact (va_ne (by omega)).trans (by assumption)) | (exact (va_ne (by omega)).trans va_eq) | (exact (va_ne (by omega)).trans ((va_ne (by omega)).trans (by assumption))) | (exact (va_ne (by omega)).trans ((va_ne (by omega)).trans ((va_ne (by omega)).trans (by assumption)))) | rfl | (exact Or.inl rfl) | (exact Or.inr rfl) | omega | (exact Nat.le_of_ble_eq_true rfl) | decide | (exact ⟨by decide, rfl, by decide⟩)) (by first | assumption | (exact mL_get (by decide)) | (rw [mL_len]; decide) | (simp only [mL_set]; exact mL_get (by decide)) | (simp only [mL_set, mL_len]; decide) | (exact va_eq) | (exact (va_ne (by omega)).trans (by assumption)) | (exact (va_ne (by omega)).trans va_eq) | (exact (va_ne (by omega)).trans ((va_ne (by omega)).trans (by assumption))) | (exact (va_ne (by omega)).trans ((va_ne (by omega)).trans ((va_ne (by omega)).trans (by assumption)))) | rfl | (exact Or.inl rfl) | (exact Or.inr rfl) | omega | (exact Nat.le_of_ble_eq_true rfl) | decide | (exact ⟨by decide, rfl, by decide⟩)) (by first | assumption | (exact mL_get (by decide)) | (rw [mL_len]; decide) | (simp only [mL_set]; exact mL_get (by decide)) | (simp only [mL_set, mL_len]; decide) | (exact va_eq) | (exact (va_ne (by omega)).trans (by assumption)) | (exact (va_ne (by omega)).trans va_eq) | (exact (va_ne (by omega)).trans ((va_ne (by omega)).trans (by assumption))) | (exact (va_ne (by omega)).trans ((va_ne (by omega)).trans ((va_ne (by omega)).trans (by assumption)))) | rfl | (exact Or.inl rfl) | (exact Or.inr rfl) | omega | (exact Nat.le_of_ble_eq_true rfl) | decide | (exact ⟨by decide, rfl, by decide⟩)) ?_ ?_
    · intro z433
      show mi_W _ _ _ _ _ (n, sl, (mr_w 510 σ0.n (-1) ze).f) _
      have he0 := mr_w_er (q := 510) (m := σ0.n) (v := -1) he0 (by decide)
      have q505 := he0.1.1
      refine b_163_456 _ _ _ ?_
      refine b_163_457 _ _ _ ?_
      exact sq_gN hn he0 (fun z' he' => er z' w hbadF he')
    · intro z433
      first | (exact absurd z433 (by decide)) | (exact absurd (by decide) z433) | (exact absurd rfl z433) | (exact absurd z433 (of_nn (by omega))) | (exact absurd (of_np (by omega)) z433) | omega
theorem sq_cN461 (hn : 575 ≤ n) (hd : j + 1 ≤ e) (hj : j < 100) (IH : mr_IE n sl s g L j) (hz1 : mr_st n s g L z1 (σ0.add.nx g L) j) (hg0 : mr_go z0 σ0 z1 (σ0.add.nx g L)) (h401 : ¬ (σ0.add.nx g L).t.k = 40) (hA : z1.I 509 σ0.n = Int32.ofNat op) (hop : op = 17) (hsp : ms_E g L (j + 1) false σ0 = ms_bd g L (ms_E g L j) op σ0.n σ0.t.v (σ0.add.nx g L)) (ok : mr_okE n sl s g L Q z0 σ0 (j + 1) false) (er : mr_erE n sl s g L Q z0 σ0 (j + 1) false) : mi_W (e + 14) 163 461 [some (.ref 505), some (.int (Int32.ofNat op)), some (.int (Int32.ofNat σ0.n)), some (.int 1)] [] (n, sl, z1.f) Q := by
  have hn80 : (σ0.add.nx g L).n ≤ 800 := hz1.2.2.2.2.1.2
  have hn1 : (σ0.add.nx g L).n = σ0.n + 1 := rfl
  have hm8 : σ0.n < 800 := by omega
  have hxm := ix_of (w := σ0.n) (m := 800) (by omega) (by omega)
  rw [ms_bd4 (by rcases hop with rfl <;> rfl)] at hsp
  generalize hσ1 : σ0.add.nx g L = σ1 at *
  have q505 := hz1.1.1
  have qAA := hz1.1.2.1 (510, 800) (by decide)
  refine b_163_461 _ _ _ (by first | assumption | (exact mL_get (by decide)) | (rw [mL_len]; decide) | (simp only [mL_set]; exact mL_get (by decide)) | (simp only [mL_set, mL_len]; decide) | (exact va_eq) | (exact (va_ne (by omega)).trans (by assumption)) | (exact (va_ne (by omega)).trans va_eq) | (exact (va_ne (by omega)).trans ((va_ne (by omega)).trans (by assumption))) | (exact (va_ne (by omega)).trans ((va_ne (by omega)).trans ((va_ne (by omega)).trans (by assumption)))) | rfl | (exact Or.inl rfl) | (exact Or.inr rfl) | omega | (exact Nat.le_of_ble_eq_true rfl) | decide | (exact ⟨by decide, rfl, by decide⟩)) (by first | assumption | (exact mL_get (by decide)) | (rw [mL_len]; decide) | (simp only [mL_set]; exact mL_get (by decide)) | (simp only [mL_set, mL_len]; decide) | (exact va_eq) | (exact (va_ne (by omega)).trans (by assumption)) | (exact (va_ne (by omega)).trans va_eq) | (exact (va_ne (by omega)).trans ((va_ne (by omega)).trans (by assumption))) | (exact (va_ne (by omega)).trans ((va_ne (by omega)).trans ((va_ne (by omega)).trans (by assumption)))) | rfl | (exact Or.inl rfl) | (exact Or.inr rfl) | omega | (exact Nat.le_of_ble_eq_true rfl) | decide | (exact ⟨by decide, rfl, by decide⟩)) (by first | assumption | (exact mL_get (by decide)) | (rw [mL_len]; decide) | (simp only [mL_set]; exact mL_get (by decide)) | (simp only [mL_set, mL_len]; decide) | (exact va_eq) | (exact (va_ne (by omega)).trans (by assumption)) | (exact (va_ne (by omega)).trans va_eq) | (exact (va_ne (by omega)).trans ((va_ne (by omega)).trans (by assumption))) | (exact (va_ne (by omega)).trans ((va_ne (by omega)).trans ((va_ne (by omega)).trans (by assumption)))) | rfl | (exact Or.inl rfl) | (exact Or.inr rfl) | omega | (exact Nat.le_of_ble_eq_true rfl) | decide | (exact ⟨by decide, rfl, by decide⟩)) (by first | assumption | (exact mL_get (by decide)) | (rw [mL_len]; decide) | (simp only [mL_set]; exact mL_get (by decide)) | (simp only [mL_set, mL_len]; decide) | (exact va_eq) | (exact (va_ne (by omega)).trans (by assumption)) | (exact (va_ne (by omega)).trans va_eq) | (exact (va_ne (by omega)).trans ((va_ne (by omega)).trans (by assumption))) | (exact (va_ne (by omega)).trans ((va_ne (by omega)).trans ((va_ne (by omega)).trans (by assumption)))) | rfl | (exact Or.inl rfl) | (exact Or.inr rfl) | omega | (exact Nat.le_of_ble_eq_true rfl) | decide | (exact ⟨by decide, rfl, by decide⟩)) (by first | assumption | (exact mL_get (by decide)) | (rw [mL_len]; decide) | (simp only [mL_set]; exact mL_get (by decide)) | (simp only [mL_set, mL_len]; decide) | (exact va_eq) | (exact (va_ne (by omega)).trans (by assumption)) | (exact (va_ne (by omega)).trans va_eq) | (exact (va_ne (by omega)).trans ((va_ne (by omega)).trans (by assumption))) | (exact (va_ne (by omega)).trans ((va_ne (by omega)).trans ((va_ne (by omega)).trans (by assumption)))) | rfl | (exact Or.inl rfl) | (exact Or.inr rfl) | omega | (exact Nat.le_of_ble_eq_true rfl) | decide | (exact ⟨by decide, rfl, by decide⟩)) ?_
  refine sq_choice hn hz1 (fun z2 i2 σ2 hok2 hi2 h402 hy2 hg2 => ?_) (fun ze w hbad he => ?_)
  · have q505 := hy2.1.1
    have qAA := hy2.1.2.1 (510, 800) (by decide)
    rw [hok2, ms_eb_ok] at hsp
    have hl2 := hg2.1.1
    have hl72 := (ms_hc_n hok2).1
    have hl82 := hy2.2.2.2.2.1.2
    have hA := ((hg2.kp (m := σ0.n) (by omega)).1 509 (by decide)).trans hA
    refine b_163_470 _ _ _ _ _ _ (by first | assumption | (exact mL_get (by decide)) | (rw [mL_len]; decide) | (simp only [mL_set]; exact mL_get (by decide)) | (simp only [mL_set, mL_len]; decide) | (exact va_eq) | (exact (va_ne (by omega)).trans (by assumption)) | (exact (va_ne (by omega)).trans va_eq) | (exact (va_ne (by omega)).trans ((va_ne (by omega)).trans (by assumption))) | (exact (va_ne (by omega)).trans ((va_ne (by omega)).trans ((va_ne (by omega)).trans (by assumption)))) | rfl | (exact Or.inl rfl) | (exact Or.inr rfl) | omega | (exact Nat.le_of_ble_eq_true rfl) | decide | (exact ⟨by decide, rfl, by decide⟩)) (by first | assumption | (exact mL_get (by decide)) | (rw [mL_len]; decide) | (simp only [mL_set]; exact mL_get (by decide)) | (simp only [mL_set, mL_len]; decide) | (exact va_eq) | (exact (va_ne (by omega)).trans (by assumption)) | (exact (va_ne (by omega)).trans va_eq) | (exact (va_ne (by omega)).trans ((va_ne (by omega)).trans (by assumption))) | (exact (va_ne (by omega)).trans ((va_ne (by omega)).trans ((va_ne (by omega)).trans (by assumption)))) | rfl | (exact Or.inl rfl) | (exact Or.inr rfl) | omega | (exact Nat.le_of_ble_eq_true rfl) | decide | (exact ⟨by decide, rfl, by decide⟩)) (by first | assumption | (exact mL_get (by decide)) | (rw [mL_len]; decide) | (simp only [mL_set]; exact mL_get (by decide)) | (simp only [mL_set, mL_len]; decide) | (exact va_eq) | (exact (va_ne (by omega)).trans (by assumption)) | (exact (va_ne (by omega)).trans va_eq) | (exact (va_ne (by omega)).trans ((va_ne (by omega)).trans (by assumption))) | (exact (va_ne (by omega)).trans ((va_ne (by omega)).trans ((va_ne (by omega)).trans (by assumption)))) | rfl | (exact Or.inl rfl) | (exact Or.inr rfl) | omega | (exact Nat.le_of_ble_eq_true rfl) | decide | (exact ⟨by decide, rfl, by decide⟩)) ?_ ?_
    · intro z470
      first | (exact absurd z470 (by decide)) | (exact absurd (by decide) z470) | (exact absurd rfl z470) | (exact absurd z470 (of_nn (by omega))) | (exact absurd (of_np (by omega)) z470) | omega
    · intro z470
      show mi_W _ _ _ _ _ (n, sl, (mr_w 510 σ0.n (Int32.ofNat i2) z2).f) _
      have hz2 := mr_w_st (q := 510) (m := σ0.n) (v := Int32.ofNat i2) hy2 (by decide)
      have hg0 := (hg0.trans hg2).w (q := 510) (m := σ0.n) (v := Int32.ofNat i2) (by decide) (Nat.le_refl _)
      have hA := (mr_w_ne (q := 510) (m := σ0.n) (v := Int32.ofNat i2) (z := z2) (q' := 509) (i := σ0.n) (fun e => absurd e.1 (by decide))).trans hA
      have hF2 := mr_w_at (q := 510) (m := σ0.n) (v := Int32.ofNat i2) (z := z2)
      generalize hw2 : mr_w 510 σ0.n (Int32.ofNat i2) z2 = w2 at *
      have q505 := hz2.1.1
      refine b_163_475 _ _ _ ?_
      refine b_163_480 _ _ _ ?_
      refine sq_fN (op := op) hn hz2 hj (fun hzf => ?_)
      have ht : (σ2.set σ0.n (op, i2, 0, 0, 0, 0, 0, 0, 0, 0)).tb σ0.n = (op, i2, 0, 0, 0, 0, 0, 0, 0, 0) := va_eq
      refine ok _ (σ2.set σ0.n (op, i2, 0, 0, 0, 0, 0, 0, 0, 0)) hsp h402 hzf ((hg0.x22).set (Nat.le_refl _)) ?_ ?_
      · intro i hi1 hi2
        have hi2 : i < σ2.n := hi2
        by_cases ei : i = σ0.n
        · rw [ei, ht]
          rcases hop with rfl
          all_goals exact ⟨hA, fun _ => hF2, mz_nf, mz_nf, mz_nf, mz_nf, mz_nf, mz_nf, mz_nf, mz_nf, mz_nf, mz_nf, mz_nf, mz_nf, mz_nf⟩
        · have hte : (σ2.set σ0.n (op, i2, 0, 0, 0, 0, 0, 0, 0, 0)).tb i = σ2.tb i := va_ne ei
          rw [hte]
          omega
      · unfold mz_ok
        rw [ht]
        rcases hop with rfl
        all_goals exact ⟨by show σ0.n < σ2.n; omega, rfl, ⟨fun _ => hi2, mz_nf, mz_nf⟩, fun h => h.elim mz_nf mz_nf, mz_nf, fun h => h.elim mz_nf (fun h => h.elim mz_nf mz_nf), mz_nf⟩
  · have hbadF : ms_bad (ms_E g L (j + 1) false σ0) w := by rw [hsp]; exact hbad.bind (fun x σ' h => by exact ⟨h, rfl⟩)
    have q505 := he.1.1
    have qAA := he.1.2.1 (510, 800) (by decide)
    have he0 := hg0.er he
    refine b_163_470 _ _ _ _ _ _ (by first | assumption | (exact mL_get (by decide)) | (rw [mL_len]; decide) | (simp only [mL_set]; exact mL_get (by decide)) | (simp only [mL_set, mL_len]; decide) | (exact va_eq) | (exact (va_ne (by omega)).trans (by assumption)) | (exact (va_ne (by omega)).trans va_eq) | (exact (va_ne (by omega)).trans ((va_ne (by omega)).trans (by assumption))) | (exact (va_ne (by omega)).trans ((va_ne (by omega)).trans ((va_ne (by omega)).trans (by assumption)))) | rfl | (exact Or.inl rfl) | (exact Or.inr rfl) | omega | (exact Nat.le_of_ble_eq_true rfl) | decide | (exact ⟨by decide, rfl, by decide⟩)) (by first | assumption | (exact mL_get (by decide)) | (rw [mL_len]; decide) | (simp only [mL_set]; exact mL_get (by decide)) | (simp only [mL_set, mL_len]; decide) | (exact va_eq) | (exact (va_ne (by omega)).trans (by assumption)) | (exact (va_ne (by omega)).trans va_eq) | (exact (va_ne (by omega)).trans ((va_ne (by omega)).trans (by assumption))) | (exact (va_ne (by omega)).trans ((va_ne (by omega)).trans ((va_ne (by omega)).trans (by assumption)))) | rfl | (exact Or.inl rfl) | (exact Or.inr rfl) | omega | (exact Nat.le_of_ble_eq_true rfl) | decide | (exact ⟨by decide, rfl, by decide⟩)) (by first | assumption | (exact mL_get (by decide)) | (rw [mL_len]; decide) | (simp only [mL_set]; exact mL_get (by decide)) | (simp only [mL_set, mL_len]; decide) | (exact va_eq) | (exact (va_ne (by omega)).trans (by assumption)) | (exact (va_ne (by omega)).trans va_eq) | (exact (va_ne (by omega)).trans ((va_ne (by omega)).trans (by assumption))) | (exact (va_ne (by omega)).trans ((va_ne (by omega)).trans ((va_ne (by omega)).trans (by assumption)))) | rfl | (exact Or.inl rfl) | (exact Or.inr rfl) | omega | (exact Nat.le_of_ble_eq_true rfl) | decide | (exact ⟨by decide, rfl, by decide⟩)) ?_ ?_
    · intro z470
      show mi_W _ _ _ _ _ (n, sl, (mr_w 510 σ0.n (-1) ze).f) _
      have he0 := mr_w_er (q := 510) (m := σ0.n) (v := -1) he0 (by decide)
      have q505 := he0.1.1
      refine b_163_479 _ _ _ ?_
      refine b_163_480 _ _ _ ?_
      exact sq_gN hn he0 (fun z' he' => er z' w hbadF he')
    · intro z470
      first | (exact absurd z470 (by decide)) | (exact absurd (by decide) z470) | (exact absurd rfl z470) | (exact absurd z470 (of_nn (by omega))) | (exact absurd (of_np (by omega)) z470) | omega
theorem sq_cN484 (hn : 575 ≤ n) (hd : j + 1 ≤ e) (hj : j < 100) (IH : mr_IE n sl s g L j) (hz1 : mr_st n s g L z1 (σ0.add.nx g L) j) (hg0 : mr_go z0 σ0 z1 (σ0.add.nx g L)) (h401 : ¬ (σ0.add.nx g L).t.k = 40) (hA : z1.I 509 σ0.n = Int32.ofNat op) (hop : op = 18) (hsp : ms_E g L (j + 1) false σ0 = ms_bd g L (ms_E g L j) op σ0.n σ0.t.v (σ0.add.nx g L)) (ok : mr_okE n sl s g L Q z0 σ0 (j + 1) false) (er : mr_erE n sl s g L Q z0 σ0 (j + 1) false) : mi_W (e + 14) 163 484 [some (.ref 505), some (.int (Int32.ofNat op)), some (.int (Int32.ofNat σ0.n)), some (.int 1)] [] (n, sl, z1.f) Q := by
  have hn80 : (σ0.add.nx g L).n ≤ 800 := hz1.2.2.2.2.1.2
  have hn1 : (σ0.add.nx g L).n = σ0.n + 1 := rfl
  have hm8 : σ0.n < 800 := by omega
  have hxm := ix_of (w := σ0.n) (m := 800) (by omega) (by omega)
  rw [ms_bd5 (by rcases hop with rfl <;> rfl)] at hsp
  generalize hσ1 : σ0.add.nx g L = σ1 at *
  have q505 := hz1.1.1
  have qAA := hz1.1.2.1 (510, 800) (by decide)
  refine b_163_484 _ _ _ (by first | assumption | (exact mL_get (by decide)) | (rw [mL_len]; decide) | (simp only [mL_set]; exact mL_get (by decide)) | (simp only [mL_set, mL_len]; decide) | (exact va_eq) | (exact (va_ne (by omega)).trans (by assumption)) | (exact (va_ne (by omega)).trans va_eq) | (exact (va_ne (by omega)).trans ((va_ne (by omega)).trans (by assumption))) | (exact (va_ne (by omega)).trans ((va_ne (by omega)).trans ((va_ne (by omega)).trans (by assumption)))) | rfl | (exact Or.inl rfl) | (exact Or.inr rfl) | omega | (exact Nat.le_of_ble_eq_true rfl) | decide | (exact ⟨by decide, rfl, by decide⟩)) (by first | assumption | (exact mL_get (by decide)) | (rw [mL_len]; decide) | (simp only [mL_set]; exact mL_get (by decide)) | (simp only [mL_set, mL_len]; decide) | (exact va_eq) | (exact (va_ne (by omega)).trans (by assumption)) | (exact (va_ne (by omega)).trans va_eq) | (exact (va_ne (by omega)).trans ((va_ne (by omega)).trans (by assumption))) | (exact (va_ne (by omega)).trans ((va_ne (by omega)).trans ((va_ne (by omega)).trans (by assumption)))) | rfl | (exact Or.inl rfl) | (exact Or.inr rfl) | omega | (exact Nat.le_of_ble_eq_true rfl) | decide | (exact ⟨by decide, rfl, by decide⟩)) (by first | assumption | (exact mL_get (by decide)) | (rw [mL_len]; decide) | (simp only [mL_set]; exact mL_get (by decide)) | (simp only [mL_set, mL_len]; decide) | (exact va_eq) | (exact (va_ne (by omega)).trans (by assumption)) | (exact (va_ne (by omega)).trans va_eq) | (exact (va_ne (by omega)).trans ((va_ne (by omega)).trans (by assumption))) | (exact (va_ne (by omega)).trans ((va_ne (by omega)).trans ((va_ne (by omega)).trans (by assumption)))) | rfl | (exact Or.inl rfl) | (exact Or.inr rfl) | omega | (exact Nat.le_of_ble_eq_true rfl) | decide | (exact ⟨by decide, rfl, by decide⟩)) (by first | assumption | (exact mL_get (by decide)) | (rw [mL_len]; decide) | (simp only [mL_set]; exact mL_get (by decide)) | (simp only [mL_set, mL_len]; decide) | (exact va_eq) | (exact (va_ne (by omega)).trans (by assumption)) | (exact (va_ne (by omega)).trans va_eq) | (exact (va_ne (by omega)).trans ((va_ne (by omega)).trans (by assumption))) | (exact (va_ne (by omega)).trans ((va_ne (by omega)).trans ((va_ne (by omega)).trans (by assumption)))) | rfl | (exact Or.inl rfl) | (exact Or.inr rfl) | omega | (exact Nat.le_of_ble_eq_true rfl) | decide | (exact ⟨by decide, rfl, by decide⟩)) (by first | assumption | (exact mL_get (by decide)) | (rw [mL_len]; decide) | (simp only [mL_set]; exact mL_get (by decide)) | (simp only [mL_set, mL_len]; decide) | (exact va_eq) | (exact (va_ne (by omega)).trans (by assumption)) | (exact (va_ne (by omega)).trans va_eq) | (exact (va_ne (by omega)).trans ((va_ne (by omega)).trans (by assumption))) | (exact (va_ne (by omega)).trans ((va_ne (by omega)).trans ((va_ne (by omega)).trans (by assumption)))) | rfl | (exact Or.inl rfl) | (exact Or.inr rfl) | omega | (exact Nat.le_of_ble_eq_true rfl) | decide | (exact ⟨by decide, rfl, by decide⟩)) ?_
  refine sq_variable hn hz1 (fun z2 i2 σ2 hok2 hi2 h402 hy2 hg2 => ?_) (fun ze w hbad he => ?_)
  · have q505 := hy2.1.1
    have qAA := hy2.1.2.1 (510, 800) (by decide)
    rw [hok2, ms_eb_ok] at hsp
    have hl2 := hg2.1.1
    have hl72 := (ms_va_n hok2).1
    have hl82 := hy2.2.2.2.2.1.2
    have hA := ((hg2.kp (m := σ0.n) (by omega)).1 509 (by decide)).trans hA
    refine b_163_493 _ _ _ _ _ _ (by first | assumption | (exact mL_get (by decide)) | (rw [mL_len]; decide) | (simp only [mL_set]; exact mL_get (by decide)) | (simp only [mL_set, mL_len]; decide) | (exact va_eq) | (exact (va_ne (by omega)).trans (by assumption)) | (exact (va_ne (by omega)).trans va_eq) | (exact (va_ne (by omega)).trans ((va_ne (by omega)).trans (by assumption))) | (exact (va_ne (by omega)).trans ((va_ne (by omega)).trans ((va_ne (by omega)).trans (by assumption)))) | rfl | (exact Or.inl rfl) | (exact Or.inr rfl) | omega | (exact Nat.le_of_ble_eq_true rfl) | decide | (exact ⟨by decide, rfl, by decide⟩)) (by first | assumption | (exact mL_get (by decide)) | (rw [mL_len]; decide) | (simp only [mL_set]; exact mL_get (by decide)) | (simp only [mL_set, mL_len]; decide) | (exact va_eq) | (exact (va_ne (by omega)).trans (by assumption)) | (exact (va_ne (by omega)).trans va_eq) | (exact (va_ne (by omega)).trans ((va_ne (by omega)).trans (by assumption))) | (exact (va_ne (by omega)).trans ((va_ne (by omega)).trans ((va_ne (by omega)).trans (by assumption)))) | rfl | (exact Or.inl rfl) | (exact Or.inr rfl) | omega | (exact Nat.le_of_ble_eq_true rfl) | decide | (exact ⟨by decide, rfl, by decide⟩)) (by first | assumption | (exact mL_get (by decide)) | (rw [mL_len]; decide) | (simp only [mL_set]; exact mL_get (by decide)) | (simp only [mL_set, mL_len]; decide) | (exact va_eq) | (exact (va_ne (by omega)).trans (by assumption)) | (exact (va_ne (by omega)).trans va_eq) | (exact (va_ne (by omega)).trans ((va_ne (by omega)).trans (by assumption))) | (exact (va_ne (by omega)).trans ((va_ne (by omega)).trans ((va_ne (by omega)).trans (by assumption)))) | rfl | (exact Or.inl rfl) | (exact Or.inr rfl) | omega | (exact Nat.le_of_ble_eq_true rfl) | decide | (exact ⟨by decide, rfl, by decide⟩)) ?_ ?_
    · intro z493
      first | (exact absurd z493 (by decide)) | (exact absurd (by decide) z493) | (exact absurd rfl z493) | (exact absurd z493 (of_nn (by omega))) | (exact absurd (of_np (by omega)) z493) | omega
    · intro z493
      show mi_W _ _ _ _ _ (n, sl, (mr_w 510 σ0.n (Int32.ofNat i2) z2).f) _
      have hz2 := mr_w_st (q := 510) (m := σ0.n) (v := Int32.ofNat i2) hy2 (by decide)
      have hg0 := (hg0.trans hg2).w (q := 510) (m := σ0.n) (v := Int32.ofNat i2) (by decide) (Nat.le_refl _)
      have hA := (mr_w_ne (q := 510) (m := σ0.n) (v := Int32.ofNat i2) (z := z2) (q' := 509) (i := σ0.n) (fun e => absurd e.1 (by decide))).trans hA
      have hF2 := mr_w_at (q := 510) (m := σ0.n) (v := Int32.ofNat i2) (z := z2)
      generalize hw2 : mr_w 510 σ0.n (Int32.ofNat i2) z2 = w2 at *
      have q505 := hz2.1.1
      refine b_163_498 _ _ _ ?_
      refine b_163_503 _ _ _ ?_
      refine sq_fN (op := op) hn hz2 hj (fun hzf => ?_)
      have ht : (σ2.set σ0.n (op, i2, 0, 0, 0, 0, 0, 0, 0, 0)).tb σ0.n = (op, i2, 0, 0, 0, 0, 0, 0, 0, 0) := va_eq
      refine ok _ (σ2.set σ0.n (op, i2, 0, 0, 0, 0, 0, 0, 0, 0)) hsp h402 hzf ((hg0.x22).set (Nat.le_refl _)) ?_ ?_
      · intro i hi1 hi2
        have hi2 : i < σ2.n := hi2
        by_cases ei : i = σ0.n
        · rw [ei, ht]
          rcases hop with rfl
          all_goals exact ⟨hA, fun _ => hF2, mz_nf, mz_nf, mz_nf, mz_nf, mz_nf, mz_nf, mz_nf, mz_nf, mz_nf, mz_nf, mz_nf, mz_nf, mz_nf⟩
        · have hte : (σ2.set σ0.n (op, i2, 0, 0, 0, 0, 0, 0, 0, 0)).tb i = σ2.tb i := va_ne ei
          rw [hte]
          omega
      · unfold mz_ok
        rw [ht]
        rcases hop with rfl
        all_goals exact ⟨by show σ0.n < σ2.n; omega, rfl, ⟨fun _ => hi2, mz_nf, mz_nf⟩, fun h => h.elim mz_nf mz_nf, mz_nf, fun h => h.elim mz_nf (fun h => h.elim mz_nf mz_nf), mz_nf⟩
  · have hbadF : ms_bad (ms_E g L (j + 1) false σ0) w := by rw [hsp]; exact hbad.bind (fun x σ' h => by exact ⟨h, rfl⟩)
    have q505 := he.1.1
    have qAA := he.1.2.1 (510, 800) (by decide)
    have he0 := hg0.er he
    refine b_163_493 _ _ _ _ _ _ (by first | assumption | (exact mL_get (by decide)) | (rw [mL_len]; decide) | (simp only [mL_set]; exact mL_get (by decide)) | (simp only [mL_set, mL_len]; decide) | (exact va_eq) | (exact (va_ne (by omega)).trans (by assumption)) | (exact (va_ne (by omega)).trans va_eq) | (exact (va_ne (by omega)).trans ((va_ne (by omega)).trans (by assumption))) | (exact (va_ne (by omega)).trans ((va_ne (by omega)).trans ((va_ne (by omega)).trans (by assumption)))) | rfl | (exact Or.inl rfl) | (exact Or.inr rfl) | omega | (exact Nat.le_of_ble_eq_true rfl) | decide | (exact ⟨by decide, rfl, by decide⟩)) (by first | assumption | (exact mL_get (by decide)) | (rw [mL_len]; decide) | (simp only [mL_set]; exact mL_get (by decide)) | (simp only [mL_set, mL_len]; decide) | (exact va_eq) | (exact (va_ne (by omega)).trans (by assumption)) | (exact (va_ne (by omega)).trans va_eq) | (exact (va_ne (by omega)).trans ((va_ne (by omega)).trans (by assumption))) | (exact (va_ne (by omega)).trans ((va_ne (by omega)).trans ((va_ne (by omega)).trans (by assumption)))) | rfl | (exact Or.inl rfl) | (exact Or.inr rfl) | omega | (exact Nat.le_of_ble_eq_true rfl) | decide | (exact ⟨by decide, rfl, by decide⟩)) (by first | assumption | (exact mL_get (by decide)) | (rw [mL_len]; decide) | (simp only [mL_set]; exact mL_get (by decide)) | (simp only [mL_set, mL_len]; decide) | (exact va_eq) | (exact (va_ne (by omega)).trans (by assumption)) | (exact (va_ne (by omega)).trans va_eq) | (exact (va_ne (by omega)).trans ((va_ne (by omega)).trans (by assumption))) | (exact (va_ne (by omega)).trans ((va_ne (by omega)).trans ((va_ne (by omega)).trans (by assumption)))) | rfl | (exact Or.inl rfl) | (exact Or.inr rfl) | omega | (exact Nat.le_of_ble_eq_true rfl) | decide | (exact ⟨by decide, rfl, by decide⟩)) ?_ ?_
    · intro z493
      show mi_W _ _ _ _ _ (n, sl, (mr_w 510 σ0.n (-1) ze).f) _
      have he0 := mr_w_er (q := 510) (m := σ0.n) (v := -1) he0 (by decide)
      have q505 := he0.1.1
      refine b_163_502 _ _ _ ?_
      refine b_163_503 _ _ _ ?_
      exact sq_gN hn he0 (fun z' he' => er z' w hbadF he')
    · intro z493
      first | (exact absurd z493 (by decide)) | (exact absurd (by decide) z493) | (exact absurd rfl z493) | (exact absurd z493 (of_nn (by omega))) | (exact absurd (of_np (by omega)) z493) | omega
theorem sq_cN507 (hn : 575 ≤ n) (hd : j + 1 ≤ e) (hj : j < 100) (IH : mr_IE n sl s g L j) (hz1 : mr_st n s g L z1 (σ0.add.nx g L) j) (hg0 : mr_go z0 σ0 z1 (σ0.add.nx g L)) (h401 : ¬ (σ0.add.nx g L).t.k = 40) (hA : z1.I 509 σ0.n = Int32.ofNat op) (hop : op = 21) (hsp : ms_E g L (j + 1) false σ0 = ms_bd g L (ms_E g L j) op σ0.n σ0.t.v (σ0.add.nx g L)) (ok : mr_okE n sl s g L Q z0 σ0 (j + 1) false) (er : mr_erE n sl s g L Q z0 σ0 (j + 1) false) : mi_W (e + 14) 163 507 [some (.ref 505), some (.int (Int32.ofNat op)), some (.int (Int32.ofNat σ0.n)), some (.int 1)] [] (n, sl, z1.f) Q := by
  have hn80 : (σ0.add.nx g L).n ≤ 800 := hz1.2.2.2.2.1.2
  have hn1 : (σ0.add.nx g L).n = σ0.n + 1 := rfl
  have hm8 : σ0.n < 800 := by omega
  have hxm := ix_of (w := σ0.n) (m := 800) (by omega) (by omega)
  rw [ms_bd6 (by rcases hop with rfl <;> rfl)] at hsp
  generalize hσ1 : σ0.add.nx g L = σ1 at *
  have q505 := hz1.1.1
  have qAA := hz1.1.2.1 (510, 800) (by decide)
  have qAB := hz1.1.2.1 (511, 800) (by decide)
  have qAE := hz1.1.2.1 (513, 800) (by decide)
  refine b_163_507 _ _ _ (by first | assumption | (exact mL_get (by decide)) | (rw [mL_len]; decide) | (simp only [mL_set]; exact mL_get (by decide)) | (simp only [mL_set, mL_len]; decide) | (exact va_eq) | (exact (va_ne (by omega)).trans (by assumption)) | (exact (va_ne (by omega)).trans va_eq) | (exact (va_ne (by omega)).trans ((va_ne (by omega)).trans (by assumption))) | (exact (va_ne (by omega)).trans ((va_ne (by omega)).trans ((va_ne (by omega)).trans (by assumption)))) | rfl | (exact Or.inl rfl) | (exact Or.inr rfl) | omega | (exact Nat.le_of_ble_eq_true rfl) | decide | (exact ⟨by decide, rfl, by decide⟩)) (by first | assumption | (exact mL_get (by decide)) | (rw [mL_len]; decide) | (simp only [mL_set]; exact mL_get (by decide)) | (simp only [mL_set, mL_len]; decide) | (exact va_eq) | (exact (va_ne (by omega)).trans (by assumption)) | (exact (va_ne (by omega)).trans va_eq) | (exact (va_ne (by omega)).trans ((va_ne (by omega)).trans (by assumption))) | (exact (va_ne (by omega)).trans ((va_ne (by omega)).trans ((va_ne (by omega)).trans (by assumption)))) | rfl | (exact Or.inl rfl) | (exact Or.inr rfl) | omega | (exact Nat.le_of_ble_eq_true rfl) | decide | (exact ⟨by decide, rfl, by decide⟩)) (by first | assumption | (exact mL_get (by decide)) | (rw [mL_len]; decide) | (simp only [mL_set]; exact mL_get (by decide)) | (simp only [mL_set, mL_len]; decide) | (exact va_eq) | (exact (va_ne (by omega)).trans (by assumption)) | (exact (va_ne (by omega)).trans va_eq) | (exact (va_ne (by omega)).trans ((va_ne (by omega)).trans (by assumption))) | (exact (va_ne (by omega)).trans ((va_ne (by omega)).trans ((va_ne (by omega)).trans (by assumption)))) | rfl | (exact Or.inl rfl) | (exact Or.inr rfl) | omega | (exact Nat.le_of_ble_eq_true rfl) | decide | (exact ⟨by decide, rfl, by decide⟩)) (by first | assumption | (exact mL_get (by decide)) | (rw [mL_len]; decide) | (simp only [mL_set]; exact mL_get (by decide)) | (simp only [mL_set, mL_len]; decide) | (exact va_eq) | (exact (va_ne (by omega)).trans (by assumption)) | (exact (va_ne (by omega)).trans va_eq) | (exact (va_ne (by omega)).trans ((va_ne (by omega)).trans (by assumption))) | (exact (va_ne (by omega)).trans ((va_ne (by omega)).trans ((va_ne (by omega)).trans (by assumption)))) | rfl | (exact Or.inl rfl) | (exact Or.inr rfl) | omega | (exact Nat.le_of_ble_eq_true rfl) | decide | (exact ⟨by decide, rfl, by decide⟩)) (by first | assumption | (exact mL_get (by decide)) | (rw [mL_len]; decide) | (simp only [mL_set]; exact mL_get (by decide)) | (simp only [mL_set, mL_len]; decide) | (exact va_eq) | (exact (va_ne (by omega)).trans (by assumption)) | (exact (va_ne (by omega)).trans va_eq) | (exact (va_ne (by omega)).trans ((va_ne (by omega)).trans (by assumption))) | (exact (va_ne (by omega)).trans ((va_ne (by omega)).trans ((va_ne (by omega)).trans (by assumption)))) | rfl | (exact Or.inl rfl) | (exact Or.inr rfl) | omega | (exact Nat.le_of_ble_eq_true rfl) | decide | (exact ⟨by decide, rfl, by decide⟩)) ?_
  refine IH true _ _ _ _ (by omega) hz1 (fun z2 σ2 hok2 h402 hy2 hg2 hr2 hm2 => ?_) (fun ze w hbad he => ?_)
  · have q505 := hy2.1.1
    have qAA := hy2.1.2.1 (510, 800) (by decide)
    have qAB := hy2.1.2.1 (511, 800) (by decide)
    have qAE := hy2.1.2.1 (513, 800) (by decide)
    rw [hok2, ms_eb_ok] at hsp
    have hl2 := hg2.1.1
    have hl82 := hy2.2.2.2.2.1.2
    have hA := ((hg2.kp (m := σ0.n) (by omega)).1 509 (by decide)).trans hA
    refine b_163_516 _ _ _ _ _ _ (by first | assumption | (exact mL_get (by decide)) | (rw [mL_len]; decide) | (simp only [mL_set]; exact mL_get (by decide)) | (simp only [mL_set, mL_len]; decide) | (exact va_eq) | (exact (va_ne (by omega)).trans (by assumption)) | (exact (va_ne (by omega)).trans va_eq) | (exact (va_ne (by omega)).trans ((va_ne (by omega)).trans (by assumption))) | (exact (va_ne (by omega)).trans ((va_ne (by omega)).trans ((va_ne (by omega)).trans (by assumption)))) | rfl | (exact Or.inl rfl) | (exact Or.inr rfl) | omega | (exact Nat.le_of_ble_eq_true rfl) | decide | (exact ⟨by decide, rfl, by decide⟩)) (by first | assumption | (exact mL_get (by decide)) | (rw [mL_len]; decide) | (simp only [mL_set]; exact mL_get (by decide)) | (simp only [mL_set, mL_len]; decide) | (exact va_eq) | (exact (va_ne (by omega)).trans (by assumption)) | (exact (va_ne (by omega)).trans va_eq) | (exact (va_ne (by omega)).trans ((va_ne (by omega)).trans (by assumption))) | (exact (va_ne (by omega)).trans ((va_ne (by omega)).trans ((va_ne (by omega)).trans (by assumption)))) | rfl | (exact Or.inl rfl) | (exact Or.inr rfl) | omega | (exact Nat.le_of_ble_eq_true rfl) | decide | (exact ⟨by decide, rfl, by decide⟩)) (by first | assumption | (exact mL_get (by decide)) | (rw [mL_len]; decide) | (simp only [mL_set]; exact mL_get (by decide)) | (simp only [mL_set, mL_len]; decide) | (exact va_eq) | (exact (va_ne (by omega)).trans (by assumption)) | (exact (va_ne (by omega)).trans va_eq) | (exact (va_ne (by omega)).trans ((va_ne (by omega)).trans (by assumption))) | (exact (va_ne (by omega)).trans ((va_ne (by omega)).trans ((va_ne (by omega)).trans (by assumption)))) | rfl | (exact Or.inl rfl) | (exact Or.inr rfl) | omega | (exact Nat.le_of_ble_eq_true rfl) | decide | (exact ⟨by decide, rfl, by decide⟩)) ?_ ?_
    · intro z516
      first | (exact absurd z516 (by decide)) | (exact absurd (by decide) z516) | (exact absurd rfl z516) | (exact absurd z516 (of_nn (by omega))) | (exact absurd (of_np (by omega)) z516) | omega
    · intro z516
      show mi_W _ _ _ _ _ (n, sl, (mr_w 513 σ0.n (Int32.ofNat σ1.n) z2).f) _
      have hz2 := mr_w_st (q := 513) (m := σ0.n) (v := Int32.ofNat σ1.n) hy2 (by decide)
      have hg0 := (hg0.trans hg2).w (q := 513) (m := σ0.n) (v := Int32.ofNat σ1.n) (by decide) (Nat.le_refl _)
      have hA := (mr_w_ne (q := 513) (m := σ0.n) (v := Int32.ofNat σ1.n) (z := z2) (q' := 509) (i := σ0.n) (fun e => absurd e.1 (by decide))).trans hA
      have hF2 := mr_w_at (q := 513) (m := σ0.n) (v := Int32.ofNat σ1.n) (z := z2)
      have hr2 := mr_w_rg (q := 513) (m := σ0.n) (v := Int32.ofNat σ1.n) hr2 (by omega)
      generalize hw2 : mr_w 513 σ0.n (Int32.ofNat σ1.n) z2 = w2 at *
      have q505 := hz2.1.1
      refine b_163_521 _ _ _ (by first | assumption | (exact mL_get (by decide)) | (rw [mL_len]; decide) | (simp only [mL_set]; exact mL_get (by decide)) | (simp only [mL_set, mL_len]; decide) | (exact va_eq) | (exact (va_ne (by omega)).trans (by assumption)) | (exact (va_ne (by omega)).trans va_eq) | (exact (va_ne (by omega)).trans ((va_ne (by omega)).trans (by assumption))) | (exact (va_ne (by omega)).trans ((va_ne (by omega)).trans ((va_ne (by omega)).trans (by assumption)))) | rfl | (exact Or.inl rfl) | (exact Or.inr rfl) | omega | (exact Nat.le_of_ble_eq_true rfl) | decide | (exact ⟨by decide, rfl, by decide⟩)) (by first | assumption | (exact mL_get (by decide)) | (rw [mL_len]; decide) | (simp only [mL_set]; exact mL_get (by decide)) | (simp only [mL_set, mL_len]; decide) | (exact va_eq) | (exact (va_ne (by omega)).trans (by assumption)) | (exact (va_ne (by omega)).trans va_eq) | (exact (va_ne (by omega)).trans ((va_ne (by omega)).trans (by assumption))) | (exact (va_ne (by omega)).trans ((va_ne (by omega)).trans ((va_ne (by omega)).trans (by assumption)))) | rfl | (exact Or.inl rfl) | (exact Or.inr rfl) | omega | (exact Nat.le_of_ble_eq_true rfl) | decide | (exact ⟨by decide, rfl, by decide⟩)) (by first | assumption | (exact mL_get (by decide)) | (rw [mL_len]; decide) | (simp only [mL_set]; exact mL_get (by decide)) | (simp only [mL_set, mL_len]; decide) | (exact va_eq) | (exact (va_ne (by omega)).trans (by assumption)) | (exact (va_ne (by omega)).trans va_eq) | (exact (va_ne (by omega)).trans ((va_ne (by omega)).trans (by assumption))) | (exact (va_ne (by omega)).trans ((va_ne (by omega)).trans ((va_ne (by omega)).trans (by assumption)))) | rfl | (exact Or.inl rfl) | (exact Or.inr rfl) | omega | (exact Nat.le_of_ble_eq_true rfl) | decide | (exact ⟨by decide, rfl, by decide⟩)) (by first | assumption | (exact mL_get (by decide)) | (rw [mL_len]; decide) | (simp only [mL_set]; exact mL_get (by decide)) | (simp only [mL_set, mL_len]; decide) | (exact va_eq) | (exact (va_ne (by omega)).trans (by assumption)) | (exact (va_ne (by omega)).trans va_eq) | (exact (va_ne (by omega)).trans ((va_ne (by omega)).trans (by assumption))) | (exact (va_ne (by omega)).trans ((va_ne (by omega)).trans ((va_ne (by omega)).trans (by assumption)))) | rfl | (exact Or.inl rfl) | (exact Or.inr rfl) | omega | (exact Nat.le_of_ble_eq_true rfl) | decide | (exact ⟨by decide, rfl, by decide⟩)) (by first | assumption | (exact mL_get (by decide)) | (rw [mL_len]; decide) | (simp only [mL_set]; exact mL_get (by decide)) | (simp only [mL_set, mL_len]; decide) | (exact va_eq) | (exact (va_ne (by omega)).trans (by assumption)) | (exact (va_ne (by omega)).trans va_eq) | (exact (va_ne (by omega)).trans ((va_ne (by omega)).trans (by assumption))) | (exact (va_ne (by omega)).trans ((va_ne (by omega)).trans ((va_ne (by omega)).trans (by assumption)))) | rfl | (exact Or.inl rfl) | (exact Or.inr rfl) | omega | (exact Nat.le_of_ble_eq_true rfl) | decide | (exact ⟨by decide, rfl, by decide⟩)) ?_
      refine IH false _ _ _ _ (by omega) hz2 (fun z3 σ3 hok3 h403 hy3 hg3 hr3 hm3 => ?_) (fun ze w hbad he => ?_)
      · have q505 := hy3.1.1
        have qAA := hy3.1.2.1 (510, 800) (by decide)
        have qAB := hy3.1.2.1 (511, 800) (by decide)
        have qAE := hy3.1.2.1 (513, 800) (by decide)
        rw [hok3, ms_eb_ok] at hsp
        have hl3 := hg3.1.1
        have hl83 := hy3.2.2.2.2.1.2
        have hA := ((hg3.kp (m := σ0.n) (by omega)).1 509 (by decide)).trans hA
        have hF2 := ((hg3.kp (m := σ0.n) (by omega)).1 513 (by decide)).trans hF2
        have hr2 := hr2.go hg3 (Nat.le_refl _)
        have hm2 := hm2.go (hi' := σ3.n) hg3 (by omega) (by omega)
        refine b_163_530 _ _ _ _ _ _ (by first | assumption | (exact mL_get (by decide)) | (rw [mL_len]; decide) | (simp only [mL_set]; exact mL_get (by decide)) | (simp only [mL_set, mL_len]; decide) | (exact va_eq) | (exact (va_ne (by omega)).trans (by assumption)) | (exact (va_ne (by omega)).trans va_eq) | (exact (va_ne (by omega)).trans ((va_ne (by omega)).trans (by assumption))) | (exact (va_ne (by omega)).trans ((va_ne (by omega)).trans ((va_ne (by omega)).trans (by assumption)))) | rfl | (exact Or.inl rfl) | (exact Or.inr rfl) | omega | (exact Nat.le_of_ble_eq_true rfl) | decide | (exact ⟨by decide, rfl, by decide⟩)) (by first | assumption | (exact mL_get (by decide)) | (rw [mL_len]; decide) | (simp only [mL_set]; exact mL_get (by decide)) | (simp only [mL_set, mL_len]; decide) | (exact va_eq) | (exact (va_ne (by omega)).trans (by assumption)) | (exact (va_ne (by omega)).trans va_eq) | (exact (va_ne (by omega)).trans ((va_ne (by omega)).trans (by assumption))) | (exact (va_ne (by omega)).trans ((va_ne (by omega)).trans ((va_ne (by omega)).trans (by assumption)))) | rfl | (exact Or.inl rfl) | (exact Or.inr rfl) | omega | (exact Nat.le_of_ble_eq_true rfl) | decide | (exact ⟨by decide, rfl, by decide⟩)) (by first | assumption | (exact mL_get (by decide)) | (rw [mL_len]; decide) | (simp only [mL_set]; exact mL_get (by decide)) | (simp only [mL_set, mL_len]; decide) | (exact va_eq) | (exact (va_ne (by omega)).trans (by assumption)) | (exact (va_ne (by omega)).trans va_eq) | (exact (va_ne (by omega)).trans ((va_ne (by omega)).trans (by assumption))) | (exact (va_ne (by omega)).trans ((va_ne (by omega)).trans ((va_ne (by omega)).trans (by assumption)))) | rfl | (exact Or.inl rfl) | (exact Or.inr rfl) | omega | (exact Nat.le_of_ble_eq_true rfl) | decide | (exact ⟨by decide, rfl, by decide⟩)) ?_ ?_
        · intro z530
          first | (exact absurd z530 (by decide)) | (exact absurd (by decide) z530) | (exact absurd rfl z530) | (exact absurd z530 (of_nn (by omega))) | (exact absurd (of_np (by omega)) z530) | omega
        · intro z530
          show mi_W _ _ _ _ _ (n, sl, (mr_w 510 σ0.n (Int32.ofNat σ2.n) z3).f) _
          have hz3 := mr_w_st (q := 510) (m := σ0.n) (v := Int32.ofNat σ2.n) hy3 (by decide)
          have hg0 := (hg0.trans hg3).w (q := 510) (m := σ0.n) (v := Int32.ofNat σ2.n) (by decide) (Nat.le_refl _)
          have hA := (mr_w_ne (q := 510) (m := σ0.n) (v := Int32.ofNat σ2.n) (z := z3) (q' := 509) (i := σ0.n) (fun e => absurd e.1 (by decide))).trans hA
          have hF2 := (mr_w_ne (q := 510) (m := σ0.n) (v := Int32.ofNat σ2.n) (z := z3) (q' := 513) (i := σ0.n) (fun e => absurd e.1 (by decide))).trans hF2
          have hF3 := mr_w_at (q := 510) (m := σ0.n) (v := Int32.ofNat σ2.n) (z := z3)
          have hr2 := mr_w_rg (q := 510) (m := σ0.n) (v := Int32.ofNat σ2.n) hr2 (by omega)
          have hr3 := mr_w_rg (q := 510) (m := σ0.n) (v := Int32.ofNat σ2.n) hr3 (by omega)
          generalize hw3 : mr_w 510 σ0.n (Int32.ofNat σ2.n) z3 = w3 at *
          have q505 := hz3.1.1
          refine b_163_535 _ _ _ (by first | assumption | (exact mL_get (by decide)) | (rw [mL_len]; decide) | (simp only [mL_set]; exact mL_get (by decide)) | (simp only [mL_set, mL_len]; decide) | (exact va_eq) | (exact (va_ne (by omega)).trans (by assumption)) | (exact (va_ne (by omega)).trans va_eq) | (exact (va_ne (by omega)).trans ((va_ne (by omega)).trans (by assumption))) | (exact (va_ne (by omega)).trans ((va_ne (by omega)).trans ((va_ne (by omega)).trans (by assumption)))) | rfl | (exact Or.inl rfl) | (exact Or.inr rfl) | omega | (exact Nat.le_of_ble_eq_true rfl) | decide | (exact ⟨by decide, rfl, by decide⟩)) (by first | assumption | (exact mL_get (by decide)) | (rw [mL_len]; decide) | (simp only [mL_set]; exact mL_get (by decide)) | (simp only [mL_set, mL_len]; decide) | (exact va_eq) | (exact (va_ne (by omega)).trans (by assumption)) | (exact (va_ne (by omega)).trans va_eq) | (exact (va_ne (by omega)).trans ((va_ne (by omega)).trans (by assumption))) | (exact (va_ne (by omega)).trans ((va_ne (by omega)).trans ((va_ne (by omega)).trans (by assumption)))) | rfl | (exact Or.inl rfl) | (exact Or.inr rfl) | omega | (exact Nat.le_of_ble_eq_true rfl) | decide | (exact ⟨by decide, rfl, by decide⟩)) (by first | assumption | (exact mL_get (by decide)) | (rw [mL_len]; decide) | (simp only [mL_set]; exact mL_get (by decide)) | (simp only [mL_set, mL_len]; decide) | (exact va_eq) | (exact (va_ne (by omega)).trans (by assumption)) | (exact (va_ne (by omega)).trans va_eq) | (exact (va_ne (by omega)).trans ((va_ne (by omega)).trans (by assumption))) | (exact (va_ne (by omega)).trans ((va_ne (by omega)).trans ((va_ne (by omega)).trans (by assumption)))) | rfl | (exact Or.inl rfl) | (exact Or.inr rfl) | omega | (exact Nat.le_of_ble_eq_true rfl) | decide | (exact ⟨by decide, rfl, by decide⟩)) (by first | assumption | (exact mL_get (by decide)) | (rw [mL_len]; decide) | (simp only [mL_set]; exact mL_get (by decide)) | (simp only [mL_set, mL_len]; decide) | (exact va_eq) | (exact (va_ne (by omega)).trans (by assumption)) | (exact (va_ne (by omega)).trans va_eq) | (exact (va_ne (by omega)).trans ((va_ne (by omega)).trans (by assumption))) | (exact (va_ne (by omega)).trans ((va_ne (by omega)).trans ((va_ne (by omega)).trans (by assumption)))) | rfl | (exact Or.inl rfl) | (exact Or.inr rfl) | omega | (exact Nat.le_of_ble_eq_true rfl) | decide | (exact ⟨by decide, rfl, by decide⟩)) (by first | assumption | (exact mL_get (by decide)) | (rw [mL_len]; decide) | (simp only [mL_set]; exact mL_get (by decide)) | (simp only [mL_set, mL_len]; decide) | (exact va_eq) | (exact (va_ne (by omega)).trans (by assumption)) | (exact (va_ne (by omega)).trans va_eq) | (exact (va_ne (by omega)).trans ((va_ne (by omega)).trans (by assumption))) | (exact (va_ne (by omega)).trans ((va_ne (by omega)).trans ((va_ne (by omega)).trans (by assumption)))) | rfl | (exact Or.inl rfl) | (exact Or.inr rfl) | omega | (exact Nat.le_of_ble_eq_true rfl) | decide | (exact ⟨by decide, rfl, by decide⟩)) ?_
          refine IH false _ _ _ _ (by omega) hz3 (fun z4 σ4 hok4 h404 hy4 hg4 hr4 hm4 => ?_) (fun ze w hbad he => ?_)
          · have q505 := hy4.1.1
            have qAA := hy4.1.2.1 (510, 800) (by decide)
            have qAB := hy4.1.2.1 (511, 800) (by decide)
            have qAE := hy4.1.2.1 (513, 800) (by decide)
            rw [hok4, ms_eb_ok] at hsp
            have hl4 := hg4.1.1
            have hl84 := hy4.2.2.2.2.1.2
            have hA := ((hg4.kp (m := σ0.n) (by omega)).1 509 (by decide)).trans hA
            have hF2 := ((hg4.kp (m := σ0.n) (by omega)).1 513 (by decide)).trans hF2
            have hF3 := ((hg4.kp (m := σ0.n) (by omega)).1 510 (by decide)).trans hF3
            have hr2 := hr2.go hg4 (by omega)
            have hm2 := hm2.go (hi' := σ4.n) hg4 (by omega) (by omega)
            have hr3 := hr3.go hg4 (Nat.le_refl _)
            have hm3 := hm3.go (hi' := σ4.n) hg4 (by omega) (by omega)
            refine b_163_544 _ _ _ _ _ _ (by first | assumption | (exact mL_get (by decide)) | (rw [mL_len]; decide) | (simp only [mL_set]; exact mL_get (by decide)) | (simp only [mL_set, mL_len]; decide) | (exact va_eq) | (exact (va_ne (by omega)).trans (by assumption)) | (exact (va_ne (by omega)).trans va_eq) | (exact (va_ne (by omega)).trans ((va_ne (by omega)).trans (by assumption))) | (exact (va_ne (by omega)).trans ((va_ne (by omega)).trans ((va_ne (by omega)).trans (by assumption)))) | rfl | (exact Or.inl rfl) | (exact Or.inr rfl) | omega | (exact Nat.le_of_ble_eq_true rfl) | decide | (exact ⟨by decide, rfl, by decide⟩)) (by first | assumption | (exact mL_get (by decide)) | (rw [mL_len]; decide) | (simp only [mL_set]; exact mL_get (by decide)) | (simp only [mL_set, mL_len]; decide) | (exact va_eq) | (exact (va_ne (by omega)).trans (by assumption)) | (exact (va_ne (by omega)).trans va_eq) | (exact (va_ne (by omega)).trans ((va_ne (by omega)).trans (by assumption))) | (exact (va_ne (by omega)).trans ((va_ne (by omega)).trans ((va_ne (by omega)).trans (by assumption)))) | rfl | (exact Or.inl rfl) | (exact Or.inr rfl) | omega | (exact Nat.le_of_ble_eq_true rfl) | decide | (exact ⟨by decide, rfl, by decide⟩)) (by first | assumption | (exact mL_get (by decide)) | (rw [mL_len]; decide) | (simp only [mL_set]; exact mL_get (by decide)) | (simp only [mL_set, mL_len]; decide) | (exact va_eq) | (exact (va_ne (by omega)).trans (by assumption)) | (exact (va_ne (by omega)).trans va_eq) | (exact (va_ne (by omega)).trans ((va_ne (by omega)).trans (by assumption))) | (exact (va_ne (by omega)).trans ((va_ne (by omega)).trans ((va_ne (by omega)).trans (by assumption)))) | rfl | (exact Or.inl rfl) | (exact Or.inr rfl) | omega | (exact Nat.le_of_ble_eq_true rfl) | decide | (exact ⟨by decide, rfl, by decide⟩)) ?_ ?_
            · intro z544
              first | (exact absurd z544 (by decide)) | (exact absurd (by decide) z544) | (exact absurd rfl z544) | (exact absurd z544 (of_nn (by omega))) | (exact absurd (of_np (by omega)) z544) | omega
            · intro z544
              show mi_W _ _ _ _ _ (n, sl, (mr_w 511 σ0.n (Int32.ofNat σ3.n) z4).f) _
              have hz4 := mr_w_st (q := 511) (m := σ0.n) (v := Int32.ofNat σ3.n) hy4 (by decide)
              have hg0 := (hg0.trans hg4).w (q := 511) (m := σ0.n) (v := Int32.ofNat σ3.n) (by decide) (Nat.le_refl _)
              have hA := (mr_w_ne (q := 511) (m := σ0.n) (v := Int32.ofNat σ3.n) (z := z4) (q' := 509) (i := σ0.n) (fun e => absurd e.1 (by decide))).trans hA
              have hF2 := (mr_w_ne (q := 511) (m := σ0.n) (v := Int32.ofNat σ3.n) (z := z4) (q' := 513) (i := σ0.n) (fun e => absurd e.1 (by decide))).trans hF2
              have hF3 := (mr_w_ne (q := 511) (m := σ0.n) (v := Int32.ofNat σ3.n) (z := z4) (q' := 510) (i := σ0.n) (fun e => absurd e.1 (by decide))).trans hF3
              have hF4 := mr_w_at (q := 511) (m := σ0.n) (v := Int32.ofNat σ3.n) (z := z4)
              have hr2 := mr_w_rg (q := 511) (m := σ0.n) (v := Int32.ofNat σ3.n) hr2 (by omega)
              have hr3 := mr_w_rg (q := 511) (m := σ0.n) (v := Int32.ofNat σ3.n) hr3 (by omega)
              have hr4 := mr_w_rg (q := 511) (m := σ0.n) (v := Int32.ofNat σ3.n) hr4 (by omega)
              generalize hw4 : mr_w 511 σ0.n (Int32.ofNat σ3.n) z4 = w4 at *
              have q505 := hz4.1.1
              refine b_163_549 _ _ _ ?_
              refine b_163_554 _ _ _ ?_
              refine sq_fN (op := op) hn hz4 hj (fun hzf => ?_)
              have ht : (σ4.set σ0.n (op, 0, 0, 0, 0, σ1.n, σ2.n, σ3.n, 0, 0)).tb σ0.n = (op, 0, 0, 0, 0, σ1.n, σ2.n, σ3.n, 0, 0) := va_eq
              refine ok _ (σ4.set σ0.n (op, 0, 0, 0, 0, σ1.n, σ2.n, σ3.n, 0, 0)) hsp h404 hzf ((hg0.x22).set (Nat.le_refl _)) ?_ ?_
              · intro i hi1 hi2
                have hi2 : i < σ4.n := hi2
                by_cases ei : i = σ0.n
                · rw [ei, ht]
                  rcases hop with rfl
                  all_goals exact ⟨hA, mz_nf, mz_nf, mz_nf, mz_nf, fun _ => hF2, mz_nf, mz_nf, mz_nf, fun _ => hF3, mz_nf, fun _ => hF4, mz_nf, mz_nf, mz_nf⟩
                · have hte : (σ4.set σ0.n (op, 0, 0, 0, 0, σ1.n, σ2.n, σ3.n, 0, 0)).tb i = σ4.tb i := va_ne ei
                  rw [hte]
                  rcases (by omega : i < σ2.n ∨ (σ2.n ≤ i ∧ i < σ3.n) ∨ σ3.n ≤ i) with hh | hh | hh
                  · exact (hr2 i (by omega) (by omega)).kp mr_x22_kp
                  · exact (hr3 i (by omega) (by omega)).kp mr_x22_kp
                  · exact (hr4 i (by omega) (by omega)).kp mr_x22_kp
              · unfold mz_ok
                rw [ht]
                rcases hop with rfl
                all_goals exact ⟨by show σ0.n < σ4.n; omega, rfl, ⟨mz_nf, mz_nf, mz_nf⟩, fun _ => ⟨by show σ0.n < σ1.n; omega, hm2.set (by omega)⟩, mz_nf, fun _ => ⟨by show σ0.n < σ2.n; omega, hm3.set (by omega)⟩, fun _ => ⟨by show σ0.n < σ3.n; omega, hm4.set (by omega)⟩⟩
          · have hbadF : ms_bad (ms_E g L (j + 1) false σ0) w := by rw [hsp]; exact hbad.bind (fun x σ' h => by exact ⟨h, rfl⟩)
            have q505 := he.1.1
            have qAA := he.1.2.1 (510, 800) (by decide)
            have qAB := he.1.2.1 (511, 800) (by decide)
            have qAE := he.1.2.1 (513, 800) (by decide)
            have he0 := hg0.er he
            refine b_163_544 _ _ _ _ _ _ (by first | assumption | (exact mL_get (by decide)) | (rw [mL_len]; decide) | (simp only [mL_set]; exact mL_get (by decide)) | (simp only [mL_set, mL_len]; decide) | (exact va_eq) | (exact (va_ne (by omega)).trans (by assumption)) | (exact (va_ne (by omega)).trans va_eq) | (exact (va_ne (by omega)).trans ((va_ne (by omega)).trans (by assumption))) | (exact (va_ne (by omega)).trans ((va_ne (by omega)).trans ((va_ne (by omega)).trans (by assumption)))) | rfl | (exact Or.inl rfl) | (exact Or.inr rfl) | omega | (exact Nat.le_of_ble_eq_true rfl) | decide | (exact ⟨by decide, rfl, by decide⟩)) (by first | assumption | (exact mL_get (by decide)) | (rw [mL_len]; decide) | (simp only [mL_set]; exact mL_get (by decide)) | (simp only [mL_set, mL_len]; decide) | (exact va_eq) | (exact (va_ne (by omega)).trans (by assumption)) | (exact (va_ne (by omega)).trans va_eq) | (exact (va_ne (by omega)).trans ((va_ne (by omega)).trans (by assumption))) | (exact (va_ne (by omega)).trans ((va_ne (by omega)).trans ((va_ne (by omega)).trans (by assumption)))) | rfl | (exact Or.inl rfl) | (exact Or.inr rfl) | omega | (exact Nat.le_of_ble_eq_true rfl) | decide | (exact ⟨by decide, rfl, by decide⟩)) (by first | assumption | (exact mL_get (by decide)) | (rw [mL_len]; decide) | (simp only [mL_set]; exact mL_get (by decide)) | (simp only [mL_set, mL_len]; decide) | (exact va_eq) | (exact (va_ne (by omega)).trans (by assumption)) | (exact (va_ne (by omega)).trans va_eq) | (exact (va_ne (by omega)).trans ((va_ne (by omega)).trans (by assumption))) | (exact (va_ne (by omega)).trans ((va_ne (by omega)).trans ((va_ne (by omega)).trans (by assumption)))) | rfl | (exact Or.inl rfl) | (exact Or.inr rfl) | omega | (exact Nat.le_of_ble_eq_true rfl) | decide | (exact ⟨by decide, rfl, by decide⟩)) ?_ ?_
            · intro z544
              show mi_W _ _ _ _ _ (n, sl, (mr_w 511 σ0.n (-1) ze).f) _
              have he0 := mr_w_er (q := 511) (m := σ0.n) (v := -1) he0 (by decide)
              have q505 := he0.1.1
              refine b_163_553 _ _ _ ?_
              refine b_163_554 _ _ _ ?_
              exact sq_gN hn he0 (fun z' he' => er z' w hbadF he')
            · intro z544
              first | (exact absurd z544 (by decide)) | (exact absurd (by decide) z544) | (exact absurd rfl z544) | (exact absurd z544 (of_nn (by omega))) | (exact absurd (of_np (by omega)) z544) | omega
      · have hbadF : ms_bad (ms_E g L (j + 1) false σ0) w := by rw [hsp]; exact hbad.bind (fun x σ' h => by rw [ms_E_odd h, ms_eb_er]; exact rfl)
        have q505 := he.1.1
        have qAA := he.1.2.1 (510, 800) (by decide)
        have qAB := he.1.2.1 (511, 800) (by decide)
        have qAE := he.1.2.1 (513, 800) (by decide)
        have he0 := hg0.er he
        refine b_163_530 _ _ _ _ _ _ (by first | assumption | (exact mL_get (by decide)) | (rw [mL_len]; decide) | (simp only [mL_set]; exact mL_get (by decide)) | (simp only [mL_set, mL_len]; decide) | (exact va_eq) | (exact (va_ne (by omega)).trans (by assumption)) | (exact (va_ne (by omega)).trans va_eq) | (exact (va_ne (by omega)).trans ((va_ne (by omega)).trans (by assumption))) | (exact (va_ne (by omega)).trans ((va_ne (by omega)).trans ((va_ne (by omega)).trans (by assumption)))) | rfl | (exact Or.inl rfl) | (exact Or.inr rfl) | omega | (exact Nat.le_of_ble_eq_true rfl) | decide | (exact ⟨by decide, rfl, by decide⟩)) (by first | assumption | (exact mL_get (by decide)) | (rw [mL_len]; decide) | (simp only [mL_set]; exact mL_get (by decide)) | (simp only [mL_set, mL_len]; decide) | (exact va_eq) | (exact (va_ne (by omega)).trans (by assumption)) | (exact (va_ne (by omega)).trans va_eq) | (exact (va_ne (by omega)).trans ((va_ne (by omega)).trans (by assumption))) | (exact (va_ne (by omega)).trans ((va_ne (by omega)).trans ((va_ne (by omega)).trans (by assumption)))) | rfl | (exact Or.inl rfl) | (exact Or.inr rfl) | omega | (exact Nat.le_of_ble_eq_true rfl) | decide | (exact ⟨by decide, rfl, by decide⟩)) (by first | assumption | (exact mL_get (by decide)) | (rw [mL_len]; decide) | (simp only [mL_set]; exact mL_get (by decide)) | (simp only [mL_set, mL_len]; decide) | (exact va_eq) | (exact (va_ne (by omega)).trans (by assumption)) | (exact (va_ne (by omega)).trans va_eq) | (exact (va_ne (by omega)).trans ((va_ne (by omega)).trans (by assumption))) | (exact (va_ne (by omega)).trans ((va_ne (by omega)).trans ((va_ne (by omega)).trans (by assumption)))) | rfl | (exact Or.inl rfl) | (exact Or.inr rfl) | omega | (exact Nat.le_of_ble_eq_true rfl) | decide | (exact ⟨by decide, rfl, by decide⟩)) ?_ ?_
        · intro z530
          show mi_W _ _ _ _ _ (n, sl, (mr_w 510 σ0.n (-1) ze).f) _
          have he0 := mr_w_er (q := 510) (m := σ0.n) (v := -1) he0 (by decide)
          have q505 := he0.1.1
          refine b_163_553 _ _ _ ?_
          refine b_163_554 _ _ _ ?_
          exact sq_gN hn he0 (fun z' he' => er z' w hbadF he')
        · intro z530
          first | (exact absurd z530 (by decide)) | (exact absurd (by decide) z530) | (exact absurd rfl z530) | (exact absurd z530 (of_nn (by omega))) | (exact absurd (of_np (by omega)) z530) | omega
  · have hbadF : ms_bad (ms_E g L (j + 1) false σ0) w := by rw [hsp]; exact hbad.bind (fun x σ' h => by rw [ms_E_odd h, ms_eb_er]; exact rfl)
    have q505 := he.1.1
    have qAA := he.1.2.1 (510, 800) (by decide)
    have qAB := he.1.2.1 (511, 800) (by decide)
    have qAE := he.1.2.1 (513, 800) (by decide)
    have he0 := hg0.er he
    refine b_163_516 _ _ _ _ _ _ (by first | assumption | (exact mL_get (by decide)) | (rw [mL_len]; decide) | (simp only [mL_set]; exact mL_get (by decide)) | (simp only [mL_set, mL_len]; decide) | (exact va_eq) | (exact (va_ne (by omega)).trans (by assumption)) | (exact (va_ne (by omega)).trans va_eq) | (exact (va_ne (by omega)).trans ((va_ne (by omega)).trans (by assumption))) | (exact (va_ne (by omega)).trans ((va_ne (by omega)).trans ((va_ne (by omega)).trans (by assumption)))) | rfl | (exact Or.inl rfl) | (exact Or.inr rfl) | omega | (exact Nat.le_of_ble_eq_true rfl) | decide | (exact ⟨by decide, rfl, by decide⟩)) (by first | assumption | (exact mL_get (by decide)) | (rw [mL_len]; decide) | (simp only [mL_set]; exact mL_get (by decide)) | (simp only [mL_set, mL_len]; decide) | (exact va_eq) | (exact (va_ne (by omega)).trans (by assumption)) | (exact (va_ne (by omega)).trans va_eq) | (exact (va_ne (by omega)).trans ((va_ne (by omega)).trans (by assumption))) | (exact (va_ne (by omega)).trans ((va_ne (by omega)).trans ((va_ne (by omega)).trans (by assumption)))) | rfl | (exact Or.inl rfl) | (exact Or.inr rfl) | omega | (exact Nat.le_of_ble_eq_true rfl) | decide | (exact ⟨by decide, rfl, by decide⟩)) (by first | assumption | (exact mL_get (by decide)) | (rw [mL_len]; decide) | (simp only [mL_set]; exact mL_get (by decide)) | (simp only [mL_set, mL_len]; decide) | (exact va_eq) | (exact (va_ne (by omega)).trans (by assumption)) | (exact (va_ne (by omega)).trans va_eq) | (exact (va_ne (by omega)).trans ((va_ne (by omega)).trans (by assumption))) | (exact (va_ne (by omega)).trans ((va_ne (by omega)).trans ((va_ne (by omega)).trans (by assumption)))) | rfl | (exact Or.inl rfl) | (exact Or.inr rfl) | omega | (exact Nat.le_of_ble_eq_true rfl) | decide | (exact ⟨by decide, rfl, by decide⟩)) ?_ ?_
    · intro z516
      show mi_W _ _ _ _ _ (n, sl, (mr_w 513 σ0.n (-1) ze).f) _
      have he0 := mr_w_er (q := 513) (m := σ0.n) (v := -1) he0 (by decide)
      have q505 := he0.1.1
      refine b_163_553 _ _ _ ?_
      refine b_163_554 _ _ _ ?_
      exact sq_gN hn he0 (fun z' he' => er z' w hbadF he')
    · intro z516
      first | (exact absurd z516 (by decide)) | (exact absurd (by decide) z516) | (exact absurd rfl z516) | (exact absurd z516 (of_nn (by omega))) | (exact absurd (of_np (by omega)) z516) | omega
theorem sq_cN558 (hn : 575 ≤ n) (hd : j + 1 ≤ e) (hj : j < 100) (IH : mr_IE n sl s g L j) (hz1 : mr_st n s g L z1 (σ0.add.nx g L) j) (hg0 : mr_go z0 σ0 z1 (σ0.add.nx g L)) (h401 : ¬ (σ0.add.nx g L).t.k = 40) (hA : z1.I 509 σ0.n = Int32.ofNat op) (hV : op = 10 → z1.J 517 σ0.n = σ0.t.v) (hop : op = 10 ∨ op = 19 ∨ op = 20) (hsp : ms_E g L (j + 1) false σ0 = ms_bd g L (ms_E g L j) op σ0.n σ0.t.v (σ0.add.nx g L)) (ok : mr_okE n sl s g L Q z0 σ0 (j + 1) false) (er : mr_erE n sl s g L Q z0 σ0 (j + 1) false) : mi_W (e + 14) 163 558 [some (.ref 505), some (.int (Int32.ofNat op)), some (.int (Int32.ofNat σ0.n)), some (.int 1)] [] (n, sl, z1.f) Q := by
  have hn80 : (σ0.add.nx g L).n ≤ 800 := hz1.2.2.2.2.1.2
  have hn1 : (σ0.add.nx g L).n = σ0.n + 1 := rfl
  have hm8 : σ0.n < 800 := by omega
  have hxm := ix_of (w := σ0.n) (m := 800) (by omega) (by omega)
  rw [ms_bd0 (by rcases hop with rfl | rfl | rfl <;> rfl)] at hsp
  generalize hσ1 : σ0.add.nx g L = σ1 at *
  have q505 := hz1.1.1
  refine sq_fN (op := op) hn hz1 hj (fun hzf => ?_)
  have ht : (σ1.set σ0.n (op, 0, 0, 0, (if op = 10 then σ0.t.v else 0), 0, 0, 0, 0, 0)).tb σ0.n = (op, 0, 0, 0, (if op = 10 then σ0.t.v else 0), 0, 0, 0, 0, 0) := va_eq
  refine ok _ (σ1.set σ0.n (op, 0, 0, 0, (if op = 10 then σ0.t.v else 0), 0, 0, 0, 0, 0)) hsp h401 hzf ((hg0.x22).set (Nat.le_refl _)) ?_ ?_
  · intro i hi1 hi2
    have hi2 : i < σ1.n := hi2
    by_cases ei : i = σ0.n
    · rw [ei, ht]
      rcases hop with rfl | rfl | rfl
      · exact ⟨hA, mz_nf, mz_nf, mz_nf, fun _ => hV rfl, mz_nf, mz_nf, mz_nf, mz_nf, mz_nf, mz_nf, mz_nf, mz_nf, mz_nf, mz_nf⟩
      · exact ⟨hA, mz_nf, mz_nf, mz_nf, mz_nf, mz_nf, mz_nf, mz_nf, mz_nf, mz_nf, mz_nf, mz_nf, mz_nf, mz_nf, mz_nf⟩
      · exact ⟨hA, mz_nf, mz_nf, mz_nf, mz_nf, mz_nf, mz_nf, mz_nf, mz_nf, mz_nf, mz_nf, mz_nf, mz_nf, mz_nf, mz_nf⟩
    · have hte : (σ1.set σ0.n (op, 0, 0, 0, (if op = 10 then σ0.t.v else 0), 0, 0, 0, 0, 0)).tb i = σ1.tb i := va_ne ei
      rw [hte]
      omega
  · unfold mz_ok
    rw [ht]
    rcases hop with rfl | rfl | rfl
    all_goals exact ⟨by show σ0.n < σ1.n; omega, rfl, ⟨mz_nf, mz_nf, mz_nf⟩, fun h => h.elim mz_nf mz_nf, mz_nf, fun h => h.elim mz_nf (fun h => h.elim mz_nf mz_nf), mz_nf⟩
theorem sq_cO316 (hn : 575 ≤ n) (hd : j + 1 ≤ e) (hj : j < 100) (IH : mr_IE n sl s g L j) (hz1 : mr_st n s g L z1 (σ0.add.nx g L) j) (hg0 : mr_go z0 σ0 z1 (σ0.add.nx g L)) (h401 : ¬ (σ0.add.nx g L).t.k = 40) (hA : z1.I 509 σ0.n = Int32.ofNat op) (hop : op = 24 ∨ op = 25) (hsp : ms_E g L (j + 1) true σ0 = ms_bd g L (ms_E g L j) op σ0.n σ0.t.v (σ0.add.nx g L)) (ok : mr_okE n sl s g L Q z0 σ0 (j + 1) true) (er : mr_erE n sl s g L Q z0 σ0 (j + 1) true) : mi_W (e + 14) 167 316 [some (.ref 505), some (.int (Int32.ofNat op)), some (.int (Int32.ofNat σ0.n)), some (.int 1)] [] (n, sl, z1.f) Q := by
  have hn80 : (σ0.add.nx g L).n ≤ 800 := hz1.2.2.2.2.1.2
  have hn1 : (σ0.add.nx g L).n = σ0.n + 1 := rfl
  have hm8 : σ0.n < 800 := by omega
  have hxm := ix_of (w := σ0.n) (m := 800) (by omega) (by omega)
  rw [ms_bd7 (by rcases hop with rfl | rfl <;> rfl)] at hsp
  generalize hσ1 : σ0.add.nx g L = σ1 at *
  have q505 := hz1.1.1
  have qAA := hz1.1.2.1 (510, 800) (by decide)
  have qAB := hz1.1.2.1 (511, 800) (by decide)
  refine b_167_316 _ _ _ (by first | assumption | (exact mL_get (by decide)) | (rw [mL_len]; decide) | (simp only [mL_set]; exact mL_get (by decide)) | (simp only [mL_set, mL_len]; decide) | (exact va_eq) | (exact (va_ne (by omega)).trans (by assumption)) | (exact (va_ne (by omega)).trans va_eq) | (exact (va_ne (by omega)).trans ((va_ne (by omega)).trans (by assumption))) | (exact (va_ne (by omega)).trans ((va_ne (by omega)).trans ((va_ne (by omega)).trans (by assumption)))) | rfl | (exact Or.inl rfl) | (exact Or.inr rfl) | omega | (exact Nat.le_of_ble_eq_true rfl) | decide | (exact ⟨by decide, rfl, by decide⟩)) (by first | assumption | (exact mL_get (by decide)) | (rw [mL_len]; decide) | (simp only [mL_set]; exact mL_get (by decide)) | (simp only [mL_set, mL_len]; decide) | (exact va_eq) | (exact (va_ne (by omega)).trans (by assumption)) | (exact (va_ne (by omega)).trans va_eq) | (exact (va_ne (by omega)).trans ((va_ne (by omega)).trans (by assumption))) | (exact (va_ne (by omega)).trans ((va_ne (by omega)).trans ((va_ne (by omega)).trans (by assumption)))) | rfl | (exact Or.inl rfl) | (exact Or.inr rfl) | omega | (exact Nat.le_of_ble_eq_true rfl) | decide | (exact ⟨by decide, rfl, by decide⟩)) (by first | assumption | (exact mL_get (by decide)) | (rw [mL_len]; decide) | (simp only [mL_set]; exact mL_get (by decide)) | (simp only [mL_set, mL_len]; decide) | (exact va_eq) | (exact (va_ne (by omega)).trans (by assumption)) | (exact (va_ne (by omega)).trans va_eq) | (exact (va_ne (by omega)).trans ((va_ne (by omega)).trans (by assumption))) | (exact (va_ne (by omega)).trans ((va_ne (by omega)).trans ((va_ne (by omega)).trans (by assumption)))) | rfl | (exact Or.inl rfl) | (exact Or.inr rfl) | omega | (exact Nat.le_of_ble_eq_true rfl) | decide | (exact ⟨by decide, rfl, by decide⟩)) (by first | assumption | (exact mL_get (by decide)) | (rw [mL_len]; decide) | (simp only [mL_set]; exact mL_get (by decide)) | (simp only [mL_set, mL_len]; decide) | (exact va_eq) | (exact (va_ne (by omega)).trans (by assumption)) | (exact (va_ne (by omega)).trans va_eq) | (exact (va_ne (by omega)).trans ((va_ne (by omega)).trans (by assumption))) | (exact (va_ne (by omega)).trans ((va_ne (by omega)).trans ((va_ne (by omega)).trans (by assumption)))) | rfl | (exact Or.inl rfl) | (exact Or.inr rfl) | omega | (exact Nat.le_of_ble_eq_true rfl) | decide | (exact ⟨by decide, rfl, by decide⟩)) (by first | assumption | (exact mL_get (by decide)) | (rw [mL_len]; decide) | (simp only [mL_set]; exact mL_get (by decide)) | (simp only [mL_set, mL_len]; decide) | (exact va_eq) | (exact (va_ne (by omega)).trans (by assumption)) | (exact (va_ne (by omega)).trans va_eq) | (exact (va_ne (by omega)).trans ((va_ne (by omega)).trans (by assumption))) | (exact (va_ne (by omega)).trans ((va_ne (by omega)).trans ((va_ne (by omega)).trans (by assumption)))) | rfl | (exact Or.inl rfl) | (exact Or.inr rfl) | omega | (exact Nat.le_of_ble_eq_true rfl) | decide | (exact ⟨by decide, rfl, by decide⟩)) ?_
  refine IH true _ _ _ _ (by omega) hz1 (fun z2 σ2 hok2 h402 hy2 hg2 hr2 hm2 => ?_) (fun ze w hbad he => ?_)
  · have q505 := hy2.1.1
    have qAA := hy2.1.2.1 (510, 800) (by decide)
    have qAB := hy2.1.2.1 (511, 800) (by decide)
    rw [hok2, ms_eb_ok] at hsp
    have hl2 := hg2.1.1
    have hl82 := hy2.2.2.2.2.1.2
    have hA := ((hg2.kp (m := σ0.n) (by omega)).1 509 (by decide)).trans hA
    refine b_167_325 _ _ _ _ _ _ (by first | assumption | (exact mL_get (by decide)) | (rw [mL_len]; decide) | (simp only [mL_set]; exact mL_get (by decide)) | (simp only [mL_set, mL_len]; decide) | (exact va_eq) | (exact (va_ne (by omega)).trans (by assumption)) | (exact (va_ne (by omega)).trans va_eq) | (exact (va_ne (by omega)).trans ((va_ne (by omega)).trans (by assumption))) | (exact (va_ne (by omega)).trans ((va_ne (by omega)).trans ((va_ne (by omega)).trans (by assumption)))) | rfl | (exact Or.inl rfl) | (exact Or.inr rfl) | omega | (exact Nat.le_of_ble_eq_true rfl) | decide | (exact ⟨by decide, rfl, by decide⟩)) (by first | assumption | (exact mL_get (by decide)) | (rw [mL_len]; decide) | (simp only [mL_set]; exact mL_get (by decide)) | (simp only [mL_set, mL_len]; decide) | (exact va_eq) | (exact (va_ne (by omega)).trans (by assumption)) | (exact (va_ne (by omega)).trans va_eq) | (exact (va_ne (by omega)).trans ((va_ne (by omega)).trans (by assumption))) | (exact (va_ne (by omega)).trans ((va_ne (by omega)).trans ((va_ne (by omega)).trans (by assumption)))) | rfl | (exact Or.inl rfl) | (exact Or.inr rfl) | omega | (exact Nat.le_of_ble_eq_true rfl) | decide | (exact ⟨by decide, rfl, by decide⟩)) (by first | assumption | (exact mL_get (by decide)) | (rw [mL_len]; decide) | (simp only [mL_set]; exact mL_get (by decide)) | (simp only [mL_set, mL_len]; decide) | (exact va_eq) | (exact (va_ne (by omega)).trans (by assumption)) | (exact (va_ne (by omega)).trans va_eq) | (exact (va_ne (by omega)).trans ((va_ne (by omega)).trans (by assumption))) | (exact (va_ne (by omega)).trans ((va_ne (by omega)).trans ((va_ne (by omega)).trans (by assumption)))) | rfl | (exact Or.inl rfl) | (exact Or.inr rfl) | omega | (exact Nat.le_of_ble_eq_true rfl) | decide | (exact ⟨by decide, rfl, by decide⟩)) ?_ ?_
    · intro z325
      first | (exact absurd z325 (by decide)) | (exact absurd (by decide) z325) | (exact absurd rfl z325) | (exact absurd z325 (of_nn (by omega))) | (exact absurd (of_np (by omega)) z325) | omega
    · intro z325
      show mi_W _ _ _ _ _ (n, sl, (mr_w 510 σ0.n (Int32.ofNat σ1.n) z2).f) _
      have hz2 := mr_w_st (q := 510) (m := σ0.n) (v := Int32.ofNat σ1.n) hy2 (by decide)
      have hg0 := (hg0.trans hg2).w (q := 510) (m := σ0.n) (v := Int32.ofNat σ1.n) (by decide) (Nat.le_refl _)
      have hA := (mr_w_ne (q := 510) (m := σ0.n) (v := Int32.ofNat σ1.n) (z := z2) (q' := 509) (i := σ0.n) (fun e => absurd e.1 (by decide))).trans hA
      have hF2 := mr_w_at (q := 510) (m := σ0.n) (v := Int32.ofNat σ1.n) (z := z2)
      have hr2 := mr_w_rg (q := 510) (m := σ0.n) (v := Int32.ofNat σ1.n) hr2 (by omega)
      generalize hw2 : mr_w 510 σ0.n (Int32.ofNat σ1.n) z2 = w2 at *
      have q505 := hz2.1.1
      refine b_167_330 _ _ _ (by first | assumption | (exact mL_get (by decide)) | (rw [mL_len]; decide) | (simp only [mL_set]; exact mL_get (by decide)) | (simp only [mL_set, mL_len]; decide) | (exact va_eq) | (exact (va_ne (by omega)).trans (by assumption)) | (exact (va_ne (by omega)).trans va_eq) | (exact (va_ne (by omega)).trans ((va_ne (by omega)).trans (by assumption))) | (exact (va_ne (by omega)).trans ((va_ne (by omega)).trans ((va_ne (by omega)).trans (by assumption)))) | rfl | (exact Or.inl rfl) | (exact Or.inr rfl) | omega | (exact Nat.le_of_ble_eq_true rfl) | decide | (exact ⟨by decide, rfl, by decide⟩)) (by first | assumption | (exact mL_get (by decide)) | (rw [mL_len]; decide) | (simp only [mL_set]; exact mL_get (by decide)) | (simp only [mL_set, mL_len]; decide) | (exact va_eq) | (exact (va_ne (by omega)).trans (by assumption)) | (exact (va_ne (by omega)).trans va_eq) | (exact (va_ne (by omega)).trans ((va_ne (by omega)).trans (by assumption))) | (exact (va_ne (by omega)).trans ((va_ne (by omega)).trans ((va_ne (by omega)).trans (by assumption)))) | rfl | (exact Or.inl rfl) | (exact Or.inr rfl) | omega | (exact Nat.le_of_ble_eq_true rfl) | decide | (exact ⟨by decide, rfl, by decide⟩)) (by first | assumption | (exact mL_get (by decide)) | (rw [mL_len]; decide) | (simp only [mL_set]; exact mL_get (by decide)) | (simp only [mL_set, mL_len]; decide) | (exact va_eq) | (exact (va_ne (by omega)).trans (by assumption)) | (exact (va_ne (by omega)).trans va_eq) | (exact (va_ne (by omega)).trans ((va_ne (by omega)).trans (by assumption))) | (exact (va_ne (by omega)).trans ((va_ne (by omega)).trans ((va_ne (by omega)).trans (by assumption)))) | rfl | (exact Or.inl rfl) | (exact Or.inr rfl) | omega | (exact Nat.le_of_ble_eq_true rfl) | decide | (exact ⟨by decide, rfl, by decide⟩)) (by first | assumption | (exact mL_get (by decide)) | (rw [mL_len]; decide) | (simp only [mL_set]; exact mL_get (by decide)) | (simp only [mL_set, mL_len]; decide) | (exact va_eq) | (exact (va_ne (by omega)).trans (by assumption)) | (exact (va_ne (by omega)).trans va_eq) | (exact (va_ne (by omega)).trans ((va_ne (by omega)).trans (by assumption))) | (exact (va_ne (by omega)).trans ((va_ne (by omega)).trans ((va_ne (by omega)).trans (by assumption)))) | rfl | (exact Or.inl rfl) | (exact Or.inr rfl) | omega | (exact Nat.le_of_ble_eq_true rfl) | decide | (exact ⟨by decide, rfl, by decide⟩)) (by first | assumption | (exact mL_get (by decide)) | (rw [mL_len]; decide) | (simp only [mL_set]; exact mL_get (by decide)) | (simp only [mL_set, mL_len]; decide) | (exact va_eq) | (exact (va_ne (by omega)).trans (by assumption)) | (exact (va_ne (by omega)).trans va_eq) | (exact (va_ne (by omega)).trans ((va_ne (by omega)).trans (by assumption))) | (exact (va_ne (by omega)).trans ((va_ne (by omega)).trans ((va_ne (by omega)).trans (by assumption)))) | rfl | (exact Or.inl rfl) | (exact Or.inr rfl) | omega | (exact Nat.le_of_ble_eq_true rfl) | decide | (exact ⟨by decide, rfl, by decide⟩)) ?_
      refine IH true _ _ _ _ (by omega) hz2 (fun z3 σ3 hok3 h403 hy3 hg3 hr3 hm3 => ?_) (fun ze w hbad he => ?_)
      · have q505 := hy3.1.1
        have qAA := hy3.1.2.1 (510, 800) (by decide)
        have qAB := hy3.1.2.1 (511, 800) (by decide)
        rw [hok3, ms_eb_ok] at hsp
        have hl3 := hg3.1.1
        have hl83 := hy3.2.2.2.2.1.2
        have hA := ((hg3.kp (m := σ0.n) (by omega)).1 509 (by decide)).trans hA
        have hF2 := ((hg3.kp (m := σ0.n) (by omega)).1 510 (by decide)).trans hF2
        have hr2 := hr2.go hg3 (Nat.le_refl _)
        have hm2 := hm2.go (hi' := σ3.n) hg3 (by omega) (by omega)
        refine b_167_339 _ _ _ _ _ _ (by first | assumption | (exact mL_get (by decide)) | (rw [mL_len]; decide) | (simp only [mL_set]; exact mL_get (by decide)) | (simp only [mL_set, mL_len]; decide) | (exact va_eq) | (exact (va_ne (by omega)).trans (by assumption)) | (exact (va_ne (by omega)).trans va_eq) | (exact (va_ne (by omega)).trans ((va_ne (by omega)).trans (by assumption))) | (exact (va_ne (by omega)).trans ((va_ne (by omega)).trans ((va_ne (by omega)).trans (by assumption)))) | rfl | (exact Or.inl rfl) | (exact Or.inr rfl) | omega | (exact Nat.le_of_ble_eq_true rfl) | decide | (exact ⟨by decide, rfl, by decide⟩)) (by first | assumption | (exact mL_get (by decide)) | (rw [mL_len]; decide) | (simp only [mL_set]; exact mL_get (by decide)) | (simp only [mL_set, mL_len]; decide) | (exact va_eq) | (exact (va_ne (by omega)).trans (by assumption)) | (exact (va_ne (by omega)).trans va_eq) | (exact (va_ne (by omega)).trans ((va_ne (by omega)).trans (by assumption))) | (exact (va_ne (by omega)).trans ((va_ne (by omega)).trans ((va_ne (by omega)).trans (by assumption)))) | rfl | (exact Or.inl rfl) | (exact Or.inr rfl) | omega | (exact Nat.le_of_ble_eq_true rfl) | decide | (exact ⟨by decide, rfl, by decide⟩)) (by first | assumption | (exact mL_get (by decide)) | (rw [mL_len]; decide) | (simp only [mL_set]; exact mL_get (by decide)) | (simp only [mL_set, mL_len]; decide) | (exact va_eq) | (exact (va_ne (by omega)).trans (by assumption)) | (exact (va_ne (by omega)).trans va_eq) | (exact (va_ne (by omega)).trans ((va_ne (by omega)).trans (by assumption))) | (exact (va_ne (by omega)).trans ((va_ne (by omega)).trans ((va_ne (by omega)).trans (by assumption)))) | rfl | (exact Or.inl rfl) | (exact Or.inr rfl) | omega | (exact Nat.le_of_ble_eq_true rfl) | decide | (exact ⟨by decide, rfl, by decide⟩)) ?_ ?_
        · intro z339
          first | (exact absurd z339 (by decide)) | (exact absurd (by decide) z339) | (exact absurd rfl z339) | (exact absurd z339 (of_nn (by omega))) | (exact absurd (of_np (by omega)) z339) | omega
        · intro z339
          show mi_W _ _ _ _ _ (n, sl, (mr_w 511 σ0.n (Int32.ofNat σ2.n) z3).f) _
          have hz3 := mr_w_st (q := 511) (m := σ0.n) (v := Int32.ofNat σ2.n) hy3 (by decide)
          have hg0 := (hg0.trans hg3).w (q := 511) (m := σ0.n) (v := Int32.ofNat σ2.n) (by decide) (Nat.le_refl _)
          have hA := (mr_w_ne (q := 511) (m := σ0.n) (v := Int32.ofNat σ2.n) (z := z3) (q' := 509) (i := σ0.n) (fun e => absurd e.1 (by decide))).trans hA
          have hF2 := (mr_w_ne (q := 511) (m := σ0.n) (v := Int32.ofNat σ2.n) (z := z3) (q' := 510) (i := σ0.n) (fun e => absurd e.1 (by decide))).trans hF2
          have hF3 := mr_w_at (q := 511) (m := σ0.n) (v := Int32.ofNat σ2.n) (z := z3)
          have hr2 := mr_w_rg (q := 511) (m := σ0.n) (v := Int32.ofNat σ2.n) hr2 (by omega)
          have hr3 := mr_w_rg (q := 511) (m := σ0.n) (v := Int32.ofNat σ2.n) hr3 (by omega)
          generalize hw3 : mr_w 511 σ0.n (Int32.ofNat σ2.n) z3 = w3 at *
          have q505 := hz3.1.1
          refine b_167_344 _ _ _ ?_
          refine b_167_349 _ _ _ ?_
          refine sq_fO (op := op) hn hz3 hj (fun hzf => ?_)
          have ht : (σ3.set σ0.n (op, 0, 0, 0, 0, σ1.n, σ2.n, 0, 0, 0)).tb σ0.n = (op, 0, 0, 0, 0, σ1.n, σ2.n, 0, 0, 0) := va_eq
          refine ok _ (σ3.set σ0.n (op, 0, 0, 0, 0, σ1.n, σ2.n, 0, 0, 0)) hsp h403 hzf ((hg0.x22).set (Nat.le_refl _)) ?_ ?_
          · intro i hi1 hi2
            have hi2 : i < σ3.n := hi2
            by_cases ei : i = σ0.n
            · rw [ei, ht]
              rcases hop with rfl | rfl
              all_goals exact ⟨hA, mz_nf, mz_nf, mz_nf, mz_nf, mz_nf, fun _ => hF2, mz_nf, mz_nf, mz_nf, fun _ => hF3, mz_nf, mz_nf, mz_nf, mz_nf⟩
            · have hte : (σ3.set σ0.n (op, 0, 0, 0, 0, σ1.n, σ2.n, 0, 0, 0)).tb i = σ3.tb i := va_ne ei
              rw [hte]
              rcases (by omega : i < σ2.n ∨ σ2.n ≤ i) with hh | hh
              · exact (hr2 i (by omega) (by omega)).kp mr_x22_kp
              · exact (hr3 i (by omega) (by omega)).kp mr_x22_kp
          · unfold mz_ok
            rw [ht]
            rcases hop with rfl | rfl
            all_goals exact ⟨by show σ0.n < σ3.n; omega, rfl, ⟨mz_nf, mz_nf, mz_nf⟩, fun _ => ⟨by show σ0.n < σ1.n; omega, hm2.set (by omega)⟩, mz_nf, fun _ => ⟨by show σ0.n < σ2.n; omega, hm3.set (by omega)⟩, mz_nf⟩
      · have hbadF : ms_bad (ms_E g L (j + 1) true σ0) w := by rw [hsp]; exact hbad.bind (fun x σ' h => by exact ⟨h, rfl⟩)
        have q505 := he.1.1
        have qAA := he.1.2.1 (510, 800) (by decide)
        have qAB := he.1.2.1 (511, 800) (by decide)
        have he0 := hg0.er he
        refine b_167_339 _ _ _ _ _ _ (by first | assumption | (exact mL_get (by decide)) | (rw [mL_len]; decide) | (simp only [mL_set]; exact mL_get (by decide)) | (simp only [mL_set, mL_len]; decide) | (exact va_eq) | (exact (va_ne (by omega)).trans (by assumption)) | (exact (va_ne (by omega)).trans va_eq) | (exact (va_ne (by omega)).trans ((va_ne (by omega)).trans (by assumption))) | (exact (va_ne (by omega)).trans ((va_ne (by omega)).trans ((va_ne (by omega)).trans (by assumption)))) | rfl | (exact Or.inl rfl) | (exact Or.inr rfl) | omega | (exact Nat.le_of_ble_eq_true rfl) | decide | (exact ⟨by decide, rfl, by decide⟩)) (by first | assumption | (exact mL_get (by decide)) | (rw [mL_len]; decide) | (simp only [mL_set]; exact mL_get (by decide)) | (simp only [mL_set, mL_len]; decide) | (exact va_eq) | (exact (va_ne (by omega)).trans (by assumption)) | (exact (va_ne (by omega)).trans va_eq) | (exact (va_ne (by omega)).trans ((va_ne (by omega)).trans (by assumption))) | (exact (va_ne (by omega)).trans ((va_ne (by omega)).trans ((va_ne (by omega)).trans (by assumption)))) | rfl | (exact Or.inl rfl) | (exact Or.inr rfl) | omega | (exact Nat.le_of_ble_eq_true rfl) | decide | (exact ⟨by decide, rfl, by decide⟩)) (by first | assumption | (exact mL_get (by decide)) | (rw [mL_len]; decide) | (simp only [mL_set]; exact mL_get (by decide)) | (simp only [mL_set, mL_len]; decide) | (exact va_eq) | (exact (va_ne (by omega)).trans (by assumption)) | (exact (va_ne (by omega)).trans va_eq) | (exact (va_ne (by omega)).trans ((va_ne (by omega)).trans (by assumption))) | (exact (va_ne (by omega)).trans ((va_ne (by omega)).trans ((va_ne (by omega)).trans (by assumption)))) | rfl | (exact Or.inl rfl) | (exact Or.inr rfl) | omega | (exact Nat.le_of_ble_eq_true rfl) | decide | (exact ⟨by decide, rfl, by decide⟩)) ?_ ?_
        · intro z339
          show mi_W _ _ _ _ _ (n, sl, (mr_w 511 σ0.n (-1) ze).f) _
          have he0 := mr_w_er (q := 511) (m := σ0.n) (v := -1) he0 (by decide)
          have q505 := he0.1.1
          refine b_167_348 _ _ _ ?_
          refine b_167_349 _ _ _ ?_
          exact sq_gO hn he0 (fun z' he' => er z' w hbadF he')
        · intro z339
          first | (exact absurd z339 (by decide)) | (exact absurd (by decide) z339) | (exact absurd rfl z339) | (exact absurd z339 (of_nn (by omega))) | (exact absurd (of_np (by omega)) z339) | omega
  · have hbadF : ms_bad (ms_E g L (j + 1) true σ0) w := by rw [hsp]; exact hbad.bind (fun x σ' h => by rw [ms_E_odd h, ms_eb_er]; exact rfl)
    have q505 := he.1.1
    have qAA := he.1.2.1 (510, 800) (by decide)
    have qAB := he.1.2.1 (511, 800) (by decide)
    have he0 := hg0.er he
    refine b_167_325 _ _ _ _ _ _ (by first | assumption | (exact mL_get (by decide)) | (rw [mL_len]; decide) | (simp only [mL_set]; exact mL_get (by decide)) | (simp only [mL_set, mL_len]; decide) | (exact va_eq) | (exact (va_ne (by omega)).trans (by assumption)) | (exact (va_ne (by omega)).trans va_eq) | (exact (va_ne (by omega)).trans ((va_ne (by omega)).trans (by assumption))) | (exact (va_ne (by omega)).trans ((va_ne (by omega)).trans ((va_ne (by omega)).trans (by assumption)))) | rfl | (exact Or.inl rfl) | (exact Or.inr rfl) | omega | (exact Nat.le_of_ble_eq_true rfl) | decide | (exact ⟨by decide, rfl, by decide⟩)) (by first | assumption | (exact mL_get (by decide)) | (rw [mL_len]; decide) | (simp only [mL_set]; exact mL_get (by decide)) | (simp only [mL_set, mL_len]; decide) | (exact va_eq) | (exact (va_ne (by omega)).trans (by assumption)) | (exact (va_ne (by omega)).trans va_eq) | (exact (va_ne (by omega)).trans ((va_ne (by omega)).trans (by assumption))) | (exact (va_ne (by omega)).trans ((va_ne (by omega)).trans ((va_ne (by omega)).trans (by assumption)))) | rfl | (exact Or.inl rfl) | (exact Or.inr rfl) | omega | (exact Nat.le_of_ble_eq_true rfl) | decide | (exact ⟨by decide, rfl, by decide⟩)) (by first | assumption | (exact mL_get (by decide)) | (rw [mL_len]; decide) | (simp only [mL_set]; exact mL_get (by decide)) | (simp only [mL_set, mL_len]; decide) | (exact va_eq) | (exact (va_ne (by omega)).trans (by assumption)) | (exact (va_ne (by omega)).trans va_eq) | (exact (va_ne (by omega)).trans ((va_ne (by omega)).trans (by assumption))) | (exact (va_ne (by omega)).trans ((va_ne (by omega)).trans ((va_ne (by omega)).trans (by assumption)))) | rfl | (exact Or.inl rfl) | (exact Or.inr rfl) | omega | (exact Nat.le_of_ble_eq_true rfl) | decide | (exact ⟨by decide, rfl, by decide⟩)) ?_ ?_
    · intro z325
      show mi_W _ _ _ _ _ (n, sl, (mr_w 510 σ0.n (-1) ze).f) _
      have he0 := mr_w_er (q := 510) (m := σ0.n) (v := -1) he0 (by decide)
      have q505 := he0.1.1
      refine b_167_348 _ _ _ ?_
      refine b_167_349 _ _ _ ?_
      exact sq_gO hn he0 (fun z' he' => er z' w hbadF he')
    · intro z325
      first | (exact absurd z325 (by decide)) | (exact absurd (by decide) z325) | (exact absurd rfl z325) | (exact absurd z325 (of_nn (by omega))) | (exact absurd (of_np (by omega)) z325) | omega
theorem sq_cO353 (hn : 575 ≤ n) (hd : j + 1 ≤ e) (hj : j < 100) (IH : mr_IE n sl s g L j) (hz1 : mr_st n s g L z1 (σ0.add.nx g L) j) (hg0 : mr_go z0 σ0 z1 (σ0.add.nx g L)) (h401 : ¬ (σ0.add.nx g L).t.k = 40) (hA : z1.I 509 σ0.n = Int32.ofNat op) (hop : op = 26) (hsp : ms_E g L (j + 1) true σ0 = ms_bd g L (ms_E g L j) op σ0.n σ0.t.v (σ0.add.nx g L)) (ok : mr_okE n sl s g L Q z0 σ0 (j + 1) true) (er : mr_erE n sl s g L Q z0 σ0 (j + 1) true) : mi_W (e + 14) 167 353 [some (.ref 505), some (.int (Int32.ofNat op)), some (.int (Int32.ofNat σ0.n)), some (.int 1)] [] (n, sl, z1.f) Q := by
  have hn80 : (σ0.add.nx g L).n ≤ 800 := hz1.2.2.2.2.1.2
  have hn1 : (σ0.add.nx g L).n = σ0.n + 1 := rfl
  have hm8 : σ0.n < 800 := by omega
  have hxm := ix_of (w := σ0.n) (m := 800) (by omega) (by omega)
  rw [ms_bd8 (by rcases hop with rfl <;> rfl)] at hsp
  generalize hσ1 : σ0.add.nx g L = σ1 at *
  have q505 := hz1.1.1
  have qAA := hz1.1.2.1 (510, 800) (by decide)
  refine b_167_353 _ _ _ (by first | assumption | (exact mL_get (by decide)) | (rw [mL_len]; decide) | (simp only [mL_set]; exact mL_get (by decide)) | (simp only [mL_set, mL_len]; decide) | (exact va_eq) | (exact (va_ne (by omega)).trans (by assumption)) | (exact (va_ne (by omega)).trans va_eq) | (exact (va_ne (by omega)).trans ((va_ne (by omega)).trans (by assumption))) | (exact (va_ne (by omega)).trans ((va_ne (by omega)).trans ((va_ne (by omega)).trans (by assumption)))) | rfl | (exact Or.inl rfl) | (exact Or.inr rfl) | omega | (exact Nat.le_of_ble_eq_true rfl) | decide | (exact ⟨by decide, rfl, by decide⟩)) (by first | assumption | (exact mL_get (by decide)) | (rw [mL_len]; decide) | (simp only [mL_set]; exact mL_get (by decide)) | (simp only [mL_set, mL_len]; decide) | (exact va_eq) | (exact (va_ne (by omega)).trans (by assumption)) | (exact (va_ne (by omega)).trans va_eq) | (exact (va_ne (by omega)).trans ((va_ne (by omega)).trans (by assumption))) | (exact (va_ne (by omega)).trans ((va_ne (by omega)).trans ((va_ne (by omega)).trans (by assumption)))) | rfl | (exact Or.inl rfl) | (exact Or.inr rfl) | omega | (exact Nat.le_of_ble_eq_true rfl) | decide | (exact ⟨by decide, rfl, by decide⟩)) (by first | assumption | (exact mL_get (by decide)) | (rw [mL_len]; decide) | (simp only [mL_set]; exact mL_get (by decide)) | (simp only [mL_set, mL_len]; decide) | (exact va_eq) | (exact (va_ne (by omega)).trans (by assumption)) | (exact (va_ne (by omega)).trans va_eq) | (exact (va_ne (by omega)).trans ((va_ne (by omega)).trans (by assumption))) | (exact (va_ne (by omega)).trans ((va_ne (by omega)).trans ((va_ne (by omega)).trans (by assumption)))) | rfl | (exact Or.inl rfl) | (exact Or.inr rfl) | omega | (exact Nat.le_of_ble_eq_true rfl) | decide | (exact ⟨by decide, rfl, by decide⟩)) (by first | assumption | (exact mL_get (by decide)) | (rw [mL_len]; decide) | (simp only [mL_set]; exact mL_get (by decide)) | (simp only [mL_set, mL_len]; decide) | (exact va_eq) | (exact (va_ne (by omega)).trans (by assumption)) | (exact (va_ne (by omega)).trans va_eq) | (exact (va_ne (by omega)).trans ((va_ne (by omega)).trans (by assumption))) | (exact (va_ne (by omega)).trans ((va_ne (by omega)).trans ((va_ne (by omega)).trans (by assumption)))) | rfl | (exact Or.inl rfl) | (exact Or.inr rfl) | omega | (exact Nat.le_of_ble_eq_true rfl) | decide | (exact ⟨by decide, rfl, by decide⟩)) (by first | assumption | (exact mL_get (by decide)) | (rw [mL_len]; decide) | (simp only [mL_set]; exact mL_get (by decide)) | (simp only [mL_set, mL_len]; decide) | (exact va_eq) | (exact (va_ne (by omega)).trans (by assumption)) | (exact (va_ne (by omega)).trans va_eq) | (exact (va_ne (by omega)).trans ((va_ne (by omega)).trans (by assumption))) | (exact (va_ne (by omega)).trans ((va_ne (by omega)).trans ((va_ne (by omega)).trans (by assumption)))) | rfl | (exact Or.inl rfl) | (exact Or.inr rfl) | omega | (exact Nat.le_of_ble_eq_true rfl) | decide | (exact ⟨by decide, rfl, by decide⟩)) ?_
  refine IH true _ _ _ _ (by omega) hz1 (fun z2 σ2 hok2 h402 hy2 hg2 hr2 hm2 => ?_) (fun ze w hbad he => ?_)
  · have q505 := hy2.1.1
    have qAA := hy2.1.2.1 (510, 800) (by decide)
    rw [hok2, ms_eb_ok] at hsp
    have hl2 := hg2.1.1
    have hl82 := hy2.2.2.2.2.1.2
    have hA := ((hg2.kp (m := σ0.n) (by omega)).1 509 (by decide)).trans hA
    refine b_167_362 _ _ _ _ _ _ (by first | assumption | (exact mL_get (by decide)) | (rw [mL_len]; decide) | (simp only [mL_set]; exact mL_get (by decide)) | (simp only [mL_set, mL_len]; decide) | (exact va_eq) | (exact (va_ne (by omega)).trans (by assumption)) | (exact (va_ne (by omega)).trans va_eq) | (exact (va_ne (by omega)).trans ((va_ne (by omega)).trans (by assumption))) | (exact (va_ne (by omega)).trans ((va_ne (by omega)).trans ((va_ne (by omega)).trans (by assumption)))) | rfl | (exact Or.inl rfl) | (exact Or.inr rfl) | omega | (exact Nat.le_of_ble_eq_true rfl) | decide | (exact ⟨by decide, rfl, by decide⟩)) (by first | assumption | (exact mL_get (by decide)) | (rw [mL_len]; decide) | (simp only [mL_set]; exact mL_get (by decide)) | (simp only [mL_set, mL_len]; decide) | (exact va_eq) | (exact (va_ne (by omega)).trans (by assumption)) | (exact (va_ne (by omega)).trans va_eq) | (exact (va_ne (by omega)).trans ((va_ne (by omega)).trans (by assumption))) | (exact (va_ne (by omega)).trans ((va_ne (by omega)).trans ((va_ne (by omega)).trans (by assumption)))) | rfl | (exact Or.inl rfl) | (exact Or.inr rfl) | omega | (exact Nat.le_of_ble_eq_true rfl) | decide | (exact ⟨by decide, rfl, by decide⟩)) (by first | assumption | (exact mL_get (by decide)) | (rw [mL_len]; decide) | (simp only [mL_set]; exact mL_get (by decide)) | (simp only [mL_set, mL_len]; decide) | (exact va_eq) | (exact (va_ne (by omega)).trans (by assumption)) | (exact (va_ne (by omega)).trans va_eq) | (exact (va_ne (by omega)).trans ((va_ne (by omega)).trans (by assumption))) | (exact (va_ne (by omega)).trans ((va_ne (by omega)).trans ((va_ne (by omega)).trans (by assumption)))) | rfl | (exact Or.inl rfl) | (exact Or.inr rfl) | omega | (exact Nat.le_of_ble_eq_true rfl) | decide | (exact ⟨by decide, rfl, by decide⟩)) ?_ ?_
    · intro z362
      first | (exact absurd z362 (by decide)) | (exact absurd (by decide) z362) | (exact absurd rfl z362) | (exact absurd z362 (of_nn (by omega))) | (exact absurd (of_np (by omega)) z362) | omega
    · intro z362
      show mi_W _ _ _ _ _ (n, sl, (mr_w 510 σ0.n (Int32.ofNat σ1.n) z2).f) _
      have hz2 := mr_w_st (q := 510) (m := σ0.n) (v := Int32.ofNat σ1.n) hy2 (by decide)
      have hg0 := (hg0.trans hg2).w (q := 510) (m := σ0.n) (v := Int32.ofNat σ1.n) (by decide) (Nat.le_refl _)
      have hA := (mr_w_ne (q := 510) (m := σ0.n) (v := Int32.ofNat σ1.n) (z := z2) (q' := 509) (i := σ0.n) (fun e => absurd e.1 (by decide))).trans hA
      have hF2 := mr_w_at (q := 510) (m := σ0.n) (v := Int32.ofNat σ1.n) (z := z2)
      have hr2 := mr_w_rg (q := 510) (m := σ0.n) (v := Int32.ofNat σ1.n) hr2 (by omega)
      generalize hw2 : mr_w 510 σ0.n (Int32.ofNat σ1.n) z2 = w2 at *
      have q505 := hz2.1.1
      refine b_167_367 _ _ _ ?_
      refine b_167_372 _ _ _ ?_
      refine sq_fO (op := op) hn hz2 hj (fun hzf => ?_)
      have ht : (σ2.set σ0.n (op, 0, 0, 0, 0, σ1.n, 0, 0, 0, 0)).tb σ0.n = (op, 0, 0, 0, 0, σ1.n, 0, 0, 0, 0) := va_eq
      refine ok _ (σ2.set σ0.n (op, 0, 0, 0, 0, σ1.n, 0, 0, 0, 0)) hsp h402 hzf ((hg0.x22).set (Nat.le_refl _)) ?_ ?_
      · intro i hi1 hi2
        have hi2 : i < σ2.n := hi2
        by_cases ei : i = σ0.n
        · rw [ei, ht]
          rcases hop with rfl
          all_goals exact ⟨hA, mz_nf, mz_nf, mz_nf, mz_nf, mz_nf, fun _ => hF2, mz_nf, mz_nf, mz_nf, mz_nf, mz_nf, mz_nf, mz_nf, mz_nf⟩
        · have hte : (σ2.set σ0.n (op, 0, 0, 0, 0, σ1.n, 0, 0, 0, 0)).tb i = σ2.tb i := va_ne ei
          rw [hte]
          exact (hr2 i (by omega) (by omega)).kp mr_x22_kp
      · unfold mz_ok
        rw [ht]
        rcases hop with rfl
        all_goals exact ⟨by show σ0.n < σ2.n; omega, rfl, ⟨mz_nf, mz_nf, mz_nf⟩, fun _ => ⟨by show σ0.n < σ1.n; omega, hm2.set (by omega)⟩, mz_nf, fun h => h.elim mz_nf (fun h => h.elim mz_nf mz_nf), mz_nf⟩
  · have hbadF : ms_bad (ms_E g L (j + 1) true σ0) w := by rw [hsp]; exact hbad.bind (fun x σ' h => by exact ⟨h, rfl⟩)
    have q505 := he.1.1
    have qAA := he.1.2.1 (510, 800) (by decide)
    have he0 := hg0.er he
    refine b_167_362 _ _ _ _ _ _ (by first | assumption | (exact mL_get (by decide)) | (rw [mL_len]; decide) | (simp only [mL_set]; exact mL_get (by decide)) | (simp only [mL_set, mL_len]; decide) | (exact va_eq) | (exact (va_ne (by omega)).trans (by assumption)) | (exact (va_ne (by omega)).trans va_eq) | (exact (va_ne (by omega)).trans ((va_ne (by omega)).trans (by assumption))) | (exact (va_ne (by omega)).trans ((va_ne (by omega)).trans ((va_ne (by omega)).trans (by assumption)))) | rfl | (exact Or.inl rfl) | (exact Or.inr rfl) | omega | (exact Nat.le_of_ble_eq_true rfl) | decide | (exact ⟨by decide, rfl, by decide⟩)) (by first | assumption | (exact mL_get (by decide)) | (rw [mL_len]; decide) | (simp only [mL_set]; exact mL_get (by decide)) | (simp only [mL_set, mL_len]; decide) | (exact va_eq) | (exact (va_ne (by omega)).trans (by assumption)) | (exact (va_ne (by omega)).trans va_eq) | (exact (va_ne (by omega)).trans ((va_ne (by omega)).trans (by assumption))) | (exact (va_ne (by omega)).trans ((va_ne (by omega)).trans ((va_ne (by omega)).trans (by assumption)))) | rfl | (exact Or.inl rfl) | (exact Or.inr rfl) | omega | (exact Nat.le_of_ble_eq_true rfl) | decide | (exact ⟨by decide, rfl, by decide⟩)) (by first | assumption | (exact mL_get (by decide)) | (rw [mL_len]; decide) | (simp only [mL_set]; exact mL_get (by decide)) | (simp only [mL_set, mL_len]; decide) | (exact va_eq) | (exact (va_ne (by omega)).trans (by assumption)) | (exact (va_ne (by omega)).trans va_eq) | (exact (va_ne (by omega)).trans ((va_ne (by omega)).trans (by assumption))) | (exact (va_ne (by omega)).trans ((va_ne (by omega)).trans ((va_ne (by omega)).trans (by assumption)))) | rfl | (exact Or.inl rfl) | (exact Or.inr rfl) | omega | (exact Nat.le_of_ble_eq_true rfl) | decide | (exact ⟨by decide, rfl, by decide⟩)) ?_ ?_
    · intro z362
      show mi_W _ _ _ _ _ (n, sl, (mr_w 510 σ0.n (-1) ze).f) _
      have he0 := mr_w_er (q := 510) (m := σ0.n) (v := -1) he0 (by decide)
      have q505 := he0.1.1
      refine b_167_371 _ _ _ ?_
      refine b_167_372 _ _ _ ?_
      exact sq_gO hn he0 (fun z' he' => er z' w hbadF he')
    · intro z362
      first | (exact absurd z362 (by decide)) | (exact absurd (by decide) z362) | (exact absurd rfl z362) | (exact absurd z362 (of_nn (by omega))) | (exact absurd (of_np (by omega)) z362) | omega
theorem sq_cO376 (hn : 575 ≤ n) (hd : j + 1 ≤ e) (hj : j < 100) (IH : mr_IE n sl s g L j) (hz1 : mr_st n s g L z1 (σ0.add.nx g L) j) (hg0 : mr_go z0 σ0 z1 (σ0.add.nx g L)) (h401 : ¬ (σ0.add.nx g L).t.k = 40) (hA : z1.I 509 σ0.n = Int32.ofNat op) (hop : op = 27) (hsp : ms_E g L (j + 1) true σ0 = ms_bd g L (ms_E g L j) op σ0.n σ0.t.v (σ0.add.nx g L)) (ok : mr_okE n sl s g L Q z0 σ0 (j + 1) true) (er : mr_erE n sl s g L Q z0 σ0 (j + 1) true) : mi_W (e + 14) 167 376 [some (.ref 505), some (.int (Int32.ofNat op)), some (.int (Int32.ofNat σ0.n)), some (.int 1)] [] (n, sl, z1.f) Q := by
  have hn80 : (σ0.add.nx g L).n ≤ 800 := hz1.2.2.2.2.1.2
  have hn1 : (σ0.add.nx g L).n = σ0.n + 1 := rfl
  have hm8 : σ0.n < 800 := by omega
  have hxm := ix_of (w := σ0.n) (m := 800) (by omega) (by omega)
  rw [ms_bd4 (by rcases hop with rfl <;> rfl)] at hsp
  generalize hσ1 : σ0.add.nx g L = σ1 at *
  have q505 := hz1.1.1
  have qAA := hz1.1.2.1 (510, 800) (by decide)
  refine b_167_376 _ _ _ (by first | assumption | (exact mL_get (by decide)) | (rw [mL_len]; decide) | (simp only [mL_set]; exact mL_get (by decide)) | (simp only [mL_set, mL_len]; decide) | (exact va_eq) | (exact (va_ne (by omega)).trans (by assumption)) | (exact (va_ne (by omega)).trans va_eq) | (exact (va_ne (by omega)).trans ((va_ne (by omega)).trans (by assumption))) | (exact (va_ne (by omega)).trans ((va_ne (by omega)).trans ((va_ne (by omega)).trans (by assumption)))) | rfl | (exact Or.inl rfl) | (exact Or.inr rfl) | omega | (exact Nat.le_of_ble_eq_true rfl) | decide | (exact ⟨by decide, rfl, by decide⟩)) (by first | assumption | (exact mL_get (by decide)) | (rw [mL_len]; decide) | (simp only [mL_set]; exact mL_get (by decide)) | (simp only [mL_set, mL_len]; decide) | (exact va_eq) | (exact (va_ne (by omega)).trans (by assumption)) | (exact (va_ne (by omega)).trans va_eq) | (exact (va_ne (by omega)).trans ((va_ne (by omega)).trans (by assumption))) | (exact (va_ne (by omega)).trans ((va_ne (by omega)).trans ((va_ne (by omega)).trans (by assumption)))) | rfl | (exact Or.inl rfl) | (exact Or.inr rfl) | omega | (exact Nat.le_of_ble_eq_true rfl) | decide | (exact ⟨by decide, rfl, by decide⟩)) (by first | assumption | (exact mL_get (by decide)) | (rw [mL_len]; decide) | (simp only [mL_set]; exact mL_get (by decide)) | (simp only [mL_set, mL_len]; decide) | (exact va_eq) | (exact (va_ne (by omega)).trans (by assumption)) | (exact (va_ne (by omega)).trans va_eq) | (exact (va_ne (by omega)).trans ((va_ne (by omega)).trans (by assumption))) | (exact (va_ne (by omega)).trans ((va_ne (by omega)).trans ((va_ne (by omega)).trans (by assumption)))) | rfl | (exact Or.inl rfl) | (exact Or.inr rfl) | omega | (exact Nat.le_of_ble_eq_true rfl) | decide | (exact ⟨by decide, rfl, by decide⟩)) (by first | assumption | (exact mL_get (by decide)) | (rw [mL_len]; decide) | (simp only [mL_set]; exact mL_get (by decide)) | (simp only [mL_set, mL_len]; decide) | (exact va_eq) | (exact (va_ne (by omega)).trans (by assumption)) | (exact (va_ne (by omega)).trans va_eq) | (exact (va_ne (by omega)).trans ((va_ne (by omega)).trans (by assumption))) | (exact (va_ne (by omega)).trans ((va_ne (by omega)).trans ((va_ne (by omega)).trans (by assumption)))) | rfl | (exact Or.inl rfl) | (exact Or.inr rfl) | omega | (exact Nat.le_of_ble_eq_true rfl) | decide | (exact ⟨by decide, rfl, by decide⟩)) (by first | assumption | (exact mL_get (by decide)) | (rw [mL_len]; decide) | (simp only [mL_set]; exact mL_get (by decide)) | (simp only [mL_set, mL_len]; decide) | (exact va_eq) | (exact (va_ne (by omega)).trans (by assumption)) | (exact (va_ne (by omega)).trans va_eq) | (exact (va_ne (by omega)).trans ((va_ne (by omega)).trans (by assumption))) | (exact (va_ne (by omega)).trans ((va_ne (by omega)).trans ((va_ne (by omega)).trans (by assumption)))) | rfl | (exact Or.inl rfl) | (exact Or.inr rfl) | omega | (exact Nat.le_of_ble_eq_true rfl) | decide | (exact ⟨by decide, rfl, by decide⟩)) ?_
  refine sq_choice hn hz1 (fun z2 i2 σ2 hok2 hi2 h402 hy2 hg2 => ?_) (fun ze w hbad he => ?_)
  · have q505 := hy2.1.1
    have qAA := hy2.1.2.1 (510, 800) (by decide)
    rw [hok2, ms_eb_ok] at hsp
    have hl2 := hg2.1.1
    have hl72 := (ms_hc_n hok2).1
    have hl82 := hy2.2.2.2.2.1.2
    have hA := ((hg2.kp (m := σ0.n) (by omega)).1 509 (by decide)).trans hA
    refine b_167_385 _ _ _ _ _ _ (by first | assumption | (exact mL_get (by decide)) | (rw [mL_len]; decide) | (simp only [mL_set]; exact mL_get (by decide)) | (simp only [mL_set, mL_len]; decide) | (exact va_eq) | (exact (va_ne (by omega)).trans (by assumption)) | (exact (va_ne (by omega)).trans va_eq) | (exact (va_ne (by omega)).trans ((va_ne (by omega)).trans (by assumption))) | (exact (va_ne (by omega)).trans ((va_ne (by omega)).trans ((va_ne (by omega)).trans (by assumption)))) | rfl | (exact Or.inl rfl) | (exact Or.inr rfl) | omega | (exact Nat.le_of_ble_eq_true rfl) | decide | (exact ⟨by decide, rfl, by decide⟩)) (by first | assumption | (exact mL_get (by decide)) | (rw [mL_len]; decide) | (simp only [mL_set]; exact mL_get (by decide)) | (simp only [mL_set, mL_len]; decide) | (exact va_eq) | (exact (va_ne (by omega)).trans (by assumption)) | (exact (va_ne (by omega)).trans va_eq) | (exact (va_ne (by omega)).trans ((va_ne (by omega)).trans (by assumption))) | (exact (va_ne (by omega)).trans ((va_ne (by omega)).trans ((va_ne (by omega)).trans (by assumption)))) | rfl | (exact Or.inl rfl) | (exact Or.inr rfl) | omega | (exact Nat.le_of_ble_eq_true rfl) | decide | (exact ⟨by decide, rfl, by decide⟩)) (by first | assumption | (exact mL_get (by decide)) | (rw [mL_len]; decide) | (simp only [mL_set]; exact mL_get (by decide)) | (simp only [mL_set, mL_len]; decide) | (exact va_eq) | (exact (va_ne (by omega)).trans (by assumption)) | (exact (va_ne (by omega)).trans va_eq) | (exact (va_ne (by omega)).trans ((va_ne (by omega)).trans (by assumption))) | (exact (va_ne (by omega)).trans ((va_ne (by omega)).trans ((va_ne (by omega)).trans (by assumption)))) | rfl | (exact Or.inl rfl) | (exact Or.inr rfl) | omega | (exact Nat.le_of_ble_eq_true rfl) | decide | (exact ⟨by decide, rfl, by decide⟩)) ?_ ?_
    · intro z385
      first | (exact absurd z385 (by decide)) | (exact absurd (by decide) z385) | (exact absurd rfl z385) | (exact absurd z385 (of_nn (by omega))) | (exact absurd (of_np (by omega)) z385) | omega
    · intro z385
      show mi_W _ _ _ _ _ (n, sl, (mr_w 510 σ0.n (Int32.ofNat i2) z2).f) _
      have hz2 := mr_w_st (q := 510) (m := σ0.n) (v := Int32.ofNat i2) hy2 (by decide)
      have hg0 := (hg0.trans hg2).w (q := 510) (m := σ0.n) (v := Int32.ofNat i2) (by decide) (Nat.le_refl _)
      have hA := (mr_w_ne (q := 510) (m := σ0.n) (v := Int32.ofNat i2) (z := z2) (q' := 509) (i := σ0.n) (fun e => absurd e.1 (by decide))).trans hA
      have hF2 := mr_w_at (q := 510) (m := σ0.n) (v := Int32.ofNat i2) (z := z2)
      generalize hw2 : mr_w 510 σ0.n (Int32.ofNat i2) z2 = w2 at *
      have q505 := hz2.1.1
      refine b_167_390 _ _ _ ?_
      refine b_167_395 _ _ _ ?_
      refine sq_fO (op := op) hn hz2 hj (fun hzf => ?_)
      have ht : (σ2.set σ0.n (op, i2, 0, 0, 0, 0, 0, 0, 0, 0)).tb σ0.n = (op, i2, 0, 0, 0, 0, 0, 0, 0, 0) := va_eq
      refine ok _ (σ2.set σ0.n (op, i2, 0, 0, 0, 0, 0, 0, 0, 0)) hsp h402 hzf ((hg0.x22).set (Nat.le_refl _)) ?_ ?_
      · intro i hi1 hi2
        have hi2 : i < σ2.n := hi2
        by_cases ei : i = σ0.n
        · rw [ei, ht]
          rcases hop with rfl
          all_goals exact ⟨hA, fun _ => hF2, mz_nf, mz_nf, mz_nf, mz_nf, mz_nf, mz_nf, mz_nf, mz_nf, mz_nf, mz_nf, mz_nf, mz_nf, mz_nf⟩
        · have hte : (σ2.set σ0.n (op, i2, 0, 0, 0, 0, 0, 0, 0, 0)).tb i = σ2.tb i := va_ne ei
          rw [hte]
          omega
      · unfold mz_ok
        rw [ht]
        rcases hop with rfl
        all_goals exact ⟨by show σ0.n < σ2.n; omega, rfl, ⟨fun _ => hi2, mz_nf, mz_nf⟩, fun h => h.elim mz_nf mz_nf, mz_nf, fun h => h.elim mz_nf (fun h => h.elim mz_nf mz_nf), mz_nf⟩
  · have hbadF : ms_bad (ms_E g L (j + 1) true σ0) w := by rw [hsp]; exact hbad.bind (fun x σ' h => by exact ⟨h, rfl⟩)
    have q505 := he.1.1
    have qAA := he.1.2.1 (510, 800) (by decide)
    have he0 := hg0.er he
    refine b_167_385 _ _ _ _ _ _ (by first | assumption | (exact mL_get (by decide)) | (rw [mL_len]; decide) | (simp only [mL_set]; exact mL_get (by decide)) | (simp only [mL_set, mL_len]; decide) | (exact va_eq) | (exact (va_ne (by omega)).trans (by assumption)) | (exact (va_ne (by omega)).trans va_eq) | (exact (va_ne (by omega)).trans ((va_ne (by omega)).trans (by assumption))) | (exact (va_ne (by omega)).trans ((va_ne (by omega)).trans ((va_ne (by omega)).trans (by assumption)))) | rfl | (exact Or.inl rfl) | (exact Or.inr rfl) | omega | (exact Nat.le_of_ble_eq_true rfl) | decide | (exact ⟨by decide, rfl, by decide⟩)) (by first | assumption | (exact mL_get (by decide)) | (rw [mL_len]; decide) | (simp only [mL_set]; exact mL_get (by decide)) | (simp only [mL_set, mL_len]; decide) | (exact va_eq) | (exact (va_ne (by omega)).trans (by assumption)) | (exact (va_ne (by omega)).trans va_eq) | (exact (va_ne (by omega)).trans ((va_ne (by omega)).trans (by assumption))) | (exact (va_ne (by omega)).trans ((va_ne (by omega)).trans ((va_ne (by omega)).trans (by assumption)))) | rfl | (exact Or.inl rfl) | (exact Or.inr rfl) | omega | (exact Nat.le_of_ble_eq_true rfl) | decide | (exact ⟨by decide, rfl, by decide⟩)) (by first | assumption | (exact mL_get (by decide)) | (rw [mL_len]; decide) | (simp only [mL_set]; exact mL_get (by decide)) | (simp only [mL_set, mL_len]; decide) | (exact va_eq) | (exact (va_ne (by omega)).trans (by assumption)) | (exact (va_ne (by omega)).trans va_eq) | (exact (va_ne (by omega)).trans ((va_ne (by omega)).trans (by assumption))) | (exact (va_ne (by omega)).trans ((va_ne (by omega)).trans ((va_ne (by omega)).trans (by assumption)))) | rfl | (exact Or.inl rfl) | (exact Or.inr rfl) | omega | (exact Nat.le_of_ble_eq_true rfl) | decide | (exact ⟨by decide, rfl, by decide⟩)) ?_ ?_
    · intro z385
      show mi_W _ _ _ _ _ (n, sl, (mr_w 510 σ0.n (-1) ze).f) _
      have he0 := mr_w_er (q := 510) (m := σ0.n) (v := -1) he0 (by decide)
      have q505 := he0.1.1
      refine b_167_394 _ _ _ ?_
      refine b_167_395 _ _ _ ?_
      exact sq_gO hn he0 (fun z' he' => er z' w hbadF he')
    · intro z385
      first | (exact absurd z385 (by decide)) | (exact absurd (by decide) z385) | (exact absurd rfl z385) | (exact absurd z385 (of_nn (by omega))) | (exact absurd (of_np (by omega)) z385) | omega
theorem sq_cO402 (hn : 575 ≤ n) (hd : j + 1 ≤ e) (hj : j < 100) (IH : mr_IE n sl s g L j) (hz1 : mr_st n s g L z1 (σ0.add.nx g L) j) (hg0 : mr_go z0 σ0 z1 (σ0.add.nx g L)) (h401 : ¬ (σ0.add.nx g L).t.k = 40) (hA : z1.I 509 σ0.n = Int32.ofNat op) (hop : op = 28 ∨ op = 29 ∨ op = 30 ∨ op = 31 ∨ op = 32) (hsp : ms_E g L (j + 1) true σ0 = ms_bd g L (ms_E g L j) op σ0.n σ0.t.v (σ0.add.nx g L)) (ok : mr_okE n sl s g L Q z0 σ0 (j + 1) true) (er : mr_erE n sl s g L Q z0 σ0 (j + 1) true) : mi_W (e + 14) 167 402 [some (.ref 505), some (.int (Int32.ofNat op)), some (.int (Int32.ofNat σ0.n)), some (.int 1)] [] (n, sl, z1.f) Q := by
  have hn80 : (σ0.add.nx g L).n ≤ 800 := hz1.2.2.2.2.1.2
  have hn1 : (σ0.add.nx g L).n = σ0.n + 1 := rfl
  have hm8 : σ0.n < 800 := by omega
  have hxm := ix_of (w := σ0.n) (m := 800) (by omega) (by omega)
  rw [ms_bd3 (by rcases hop with rfl | rfl | rfl | rfl | rfl <;> rfl)] at hsp
  generalize hσ1 : σ0.add.nx g L = σ1 at *
  have q505 := hz1.1.1
  have qAA := hz1.1.2.1 (510, 800) (by decide)
  have qAB := hz1.1.2.1 (511, 800) (by decide)
  refine b_167_402 _ _ _ (by first | assumption | (exact mL_get (by decide)) | (rw [mL_len]; decide) | (simp only [mL_set]; exact mL_get (by decide)) | (simp only [mL_set, mL_len]; decide) | (exact va_eq) | (exact (va_ne (by omega)).trans (by assumption)) | (exact (va_ne (by omega)).trans va_eq) | (exact (va_ne (by omega)).trans ((va_ne (by omega)).trans (by assumption))) | (exact (va_ne (by omega)).trans ((va_ne (by omega)).trans ((va_ne (by omega)).trans (by assumption)))) | rfl | (exact Or.inl rfl) | (exact Or.inr rfl) | omega | (exact Nat.le_of_ble_eq_true rfl) | decide | (exact ⟨by decide, rfl, by decide⟩)) (by first | assumption | (exact mL_get (by decide)) | (rw [mL_len]; decide) | (simp only [mL_set]; exact mL_get (by decide)) | (simp only [mL_set, mL_len]; decide) | (exact va_eq) | (exact (va_ne (by omega)).trans (by assumption)) | (exact (va_ne (by omega)).trans va_eq) | (exact (va_ne (by omega)).trans ((va_ne (by omega)).trans (by assumption))) | (exact (va_ne (by omega)).trans ((va_ne (by omega)).trans ((va_ne (by omega)).trans (by assumption)))) | rfl | (exact Or.inl rfl) | (exact Or.inr rfl) | omega | (exact Nat.le_of_ble_eq_true rfl) | decide | (exact ⟨by decide, rfl, by decide⟩)) (by first | assumption | (exact mL_get (by decide)) | (rw [mL_len]; decide) | (simp only [mL_set]; exact mL_get (by decide)) | (simp only [mL_set, mL_len]; decide) | (exact va_eq) | (exact (va_ne (by omega)).trans (by assumption)) | (exact (va_ne (by omega)).trans va_eq) | (exact (va_ne (by omega)).trans ((va_ne (by omega)).trans (by assumption))) | (exact (va_ne (by omega)).trans ((va_ne (by omega)).trans ((va_ne (by omega)).trans (by assumption)))) | rfl | (exact Or.inl rfl) | (exact Or.inr rfl) | omega | (exact Nat.le_of_ble_eq_true rfl) | decide | (exact ⟨by decide, rfl, by decide⟩)) (by first | assumption | (exact mL_get (by decide)) | (rw [mL_len]; decide) | (simp only [mL_set]; exact mL_get (by decide)) | (simp only [mL_set, mL_len]; decide) | (exact va_eq) | (exact (va_ne (by omega)).trans (by assumption)) | (exact (va_ne (by omega)).trans va_eq) | (exact (va_ne (by omega)).trans ((va_ne (by omega)).trans (by assumption))) | (exact (va_ne (by omega)).trans ((va_ne (by omega)).trans ((va_ne (by omega)).trans (by assumption)))) | rfl | (exact Or.inl rfl) | (exact Or.inr rfl) | omega | (exact Nat.le_of_ble_eq_true rfl) | decide | (exact ⟨by decide, rfl, by decide⟩)) (by first | assumption | (exact mL_get (by decide)) | (rw [mL_len]; decide) | (simp only [mL_set]; exact mL_get (by decide)) | (simp only [mL_set, mL_len]; decide) | (exact va_eq) | (exact (va_ne (by omega)).trans (by assumption)) | (exact (va_ne (by omega)).trans va_eq) | (exact (va_ne (by omega)).trans ((va_ne (by omega)).trans (by assumption))) | (exact (va_ne (by omega)).trans ((va_ne (by omega)).trans ((va_ne (by omega)).trans (by assumption)))) | rfl | (exact Or.inl rfl) | (exact Or.inr rfl) | omega | (exact Nat.le_of_ble_eq_true rfl) | decide | (exact ⟨by decide, rfl, by decide⟩)) ?_
  refine IH false _ _ _ _ (by omega) hz1 (fun z2 σ2 hok2 h402 hy2 hg2 hr2 hm2 => ?_) (fun ze w hbad he => ?_)
  · have q505 := hy2.1.1
    have qAA := hy2.1.2.1 (510, 800) (by decide)
    have qAB := hy2.1.2.1 (511, 800) (by decide)
    rw [hok2, ms_eb_ok] at hsp
    have hl2 := hg2.1.1
    have hl82 := hy2.2.2.2.2.1.2
    have hA := ((hg2.kp (m := σ0.n) (by omega)).1 509 (by decide)).trans hA
    refine b_167_411 _ _ _ _ _ _ (by first | assumption | (exact mL_get (by decide)) | (rw [mL_len]; decide) | (simp only [mL_set]; exact mL_get (by decide)) | (simp only [mL_set, mL_len]; decide) | (exact va_eq) | (exact (va_ne (by omega)).trans (by assumption)) | (exact (va_ne (by omega)).trans va_eq) | (exact (va_ne (by omega)).trans ((va_ne (by omega)).trans (by assumption))) | (exact (va_ne (by omega)).trans ((va_ne (by omega)).trans ((va_ne (by omega)).trans (by assumption)))) | rfl | (exact Or.inl rfl) | (exact Or.inr rfl) | omega | (exact Nat.le_of_ble_eq_true rfl) | decide | (exact ⟨by decide, rfl, by decide⟩)) (by first | assumption | (exact mL_get (by decide)) | (rw [mL_len]; decide) | (simp only [mL_set]; exact mL_get (by decide)) | (simp only [mL_set, mL_len]; decide) | (exact va_eq) | (exact (va_ne (by omega)).trans (by assumption)) | (exact (va_ne (by omega)).trans va_eq) | (exact (va_ne (by omega)).trans ((va_ne (by omega)).trans (by assumption))) | (exact (va_ne (by omega)).trans ((va_ne (by omega)).trans ((va_ne (by omega)).trans (by assumption)))) | rfl | (exact Or.inl rfl) | (exact Or.inr rfl) | omega | (exact Nat.le_of_ble_eq_true rfl) | decide | (exact ⟨by decide, rfl, by decide⟩)) (by first | assumption | (exact mL_get (by decide)) | (rw [mL_len]; decide) | (simp only [mL_set]; exact mL_get (by decide)) | (simp only [mL_set, mL_len]; decide) | (exact va_eq) | (exact (va_ne (by omega)).trans (by assumption)) | (exact (va_ne (by omega)).trans va_eq) | (exact (va_ne (by omega)).trans ((va_ne (by omega)).trans (by assumption))) | (exact (va_ne (by omega)).trans ((va_ne (by omega)).trans ((va_ne (by omega)).trans (by assumption)))) | rfl | (exact Or.inl rfl) | (exact Or.inr rfl) | omega | (exact Nat.le_of_ble_eq_true rfl) | decide | (exact ⟨by decide, rfl, by decide⟩)) ?_ ?_
    · intro z411
      first | (exact absurd z411 (by decide)) | (exact absurd (by decide) z411) | (exact absurd rfl z411) | (exact absurd z411 (of_nn (by omega))) | (exact absurd (of_np (by omega)) z411) | omega
    · intro z411
      show mi_W _ _ _ _ _ (n, sl, (mr_w 510 σ0.n (Int32.ofNat σ1.n) z2).f) _
      have hz2 := mr_w_st (q := 510) (m := σ0.n) (v := Int32.ofNat σ1.n) hy2 (by decide)
      have hg0 := (hg0.trans hg2).w (q := 510) (m := σ0.n) (v := Int32.ofNat σ1.n) (by decide) (Nat.le_refl _)
      have hA := (mr_w_ne (q := 510) (m := σ0.n) (v := Int32.ofNat σ1.n) (z := z2) (q' := 509) (i := σ0.n) (fun e => absurd e.1 (by decide))).trans hA
      have hF2 := mr_w_at (q := 510) (m := σ0.n) (v := Int32.ofNat σ1.n) (z := z2)
      have hr2 := mr_w_rg (q := 510) (m := σ0.n) (v := Int32.ofNat σ1.n) hr2 (by omega)
      generalize hw2 : mr_w 510 σ0.n (Int32.ofNat σ1.n) z2 = w2 at *
      have q505 := hz2.1.1
      refine b_167_416 _ _ _ (by first | assumption | (exact mL_get (by decide)) | (rw [mL_len]; decide) | (simp only [mL_set]; exact mL_get (by decide)) | (simp only [mL_set, mL_len]; decide) | (exact va_eq) | (exact (va_ne (by omega)).trans (by assumption)) | (exact (va_ne (by omega)).trans va_eq) | (exact (va_ne (by omega)).trans ((va_ne (by omega)).trans (by assumption))) | (exact (va_ne (by omega)).trans ((va_ne (by omega)).trans ((va_ne (by omega)).trans (by assumption)))) | rfl | (exact Or.inl rfl) | (exact Or.inr rfl) | omega | (exact Nat.le_of_ble_eq_true rfl) | decide | (exact ⟨by decide, rfl, by decide⟩)) (by first | assumption | (exact mL_get (by decide)) | (rw [mL_len]; decide) | (simp only [mL_set]; exact mL_get (by decide)) | (simp only [mL_set, mL_len]; decide) | (exact va_eq) | (exact (va_ne (by omega)).trans (by assumption)) | (exact (va_ne (by omega)).trans va_eq) | (exact (va_ne (by omega)).trans ((va_ne (by omega)).trans (by assumption))) | (exact (va_ne (by omega)).trans ((va_ne (by omega)).trans ((va_ne (by omega)).trans (by assumption)))) | rfl | (exact Or.inl rfl) | (exact Or.inr rfl) | omega | (exact Nat.le_of_ble_eq_true rfl) | decide | (exact ⟨by decide, rfl, by decide⟩)) (by first | assumption | (exact mL_get (by decide)) | (rw [mL_len]; decide) | (simp only [mL_set]; exact mL_get (by decide)) | (simp only [mL_set, mL_len]; decide) | (exact va_eq) | (exact (va_ne (by omega)).trans (by assumption)) | (exact (va_ne (by omega)).trans va_eq) | (exact (va_ne (by omega)).trans ((va_ne (by omega)).trans (by assumption))) | (exact (va_ne (by omega)).trans ((va_ne (by omega)).trans ((va_ne (by omega)).trans (by assumption)))) | rfl | (exact Or.inl rfl) | (exact Or.inr rfl) | omega | (exact Nat.le_of_ble_eq_true rfl) | decide | (exact ⟨by decide, rfl, by decide⟩)) (by first | assumption | (exact mL_get (by decide)) | (rw [mL_len]; decide) | (simp only [mL_set]; exact mL_get (by decide)) | (simp only [mL_set, mL_len]; decide) | (exact va_eq) | (exact (va_ne (by omega)).trans (by assumption)) | (exact (va_ne (by omega)).trans va_eq) | (exact (va_ne (by omega)).trans ((va_ne (by omega)).trans (by assumption))) | (exact (va_ne (by omega)).trans ((va_ne (by omega)).trans ((va_ne (by omega)).trans (by assumption)))) | rfl | (exact Or.inl rfl) | (exact Or.inr rfl) | omega | (exact Nat.le_of_ble_eq_true rfl) | decide | (exact ⟨by decide, rfl, by decide⟩)) (by first | assumption | (exact mL_get (by decide)) | (rw [mL_len]; decide) | (simp only [mL_set]; exact mL_get (by decide)) | (simp only [mL_set, mL_len]; decide) | (exact va_eq) | (exact (va_ne (by omega)).trans (by assumption)) | (exact (va_ne (by omega)).trans va_eq) | (exact (va_ne (by omega)).trans ((va_ne (by omega)).trans (by assumption))) | (exact (va_ne (by omega)).trans ((va_ne (by omega)).trans ((va_ne (by omega)).trans (by assumption)))) | rfl | (exact Or.inl rfl) | (exact Or.inr rfl) | omega | (exact Nat.le_of_ble_eq_true rfl) | decide | (exact ⟨by decide, rfl, by decide⟩)) ?_
      refine IH false _ _ _ _ (by omega) hz2 (fun z3 σ3 hok3 h403 hy3 hg3 hr3 hm3 => ?_) (fun ze w hbad he => ?_)
      · have q505 := hy3.1.1
        have qAA := hy3.1.2.1 (510, 800) (by decide)
        have qAB := hy3.1.2.1 (511, 800) (by decide)
        rw [hok3, ms_eb_ok] at hsp
        have hl3 := hg3.1.1
        have hl83 := hy3.2.2.2.2.1.2
        have hA := ((hg3.kp (m := σ0.n) (by omega)).1 509 (by decide)).trans hA
        have hF2 := ((hg3.kp (m := σ0.n) (by omega)).1 510 (by decide)).trans hF2
        have hr2 := hr2.go hg3 (Nat.le_refl _)
        have hm2 := hm2.go (hi' := σ3.n) hg3 (by omega) (by omega)
        refine b_167_425 _ _ _ _ _ _ (by first | assumption | (exact mL_get (by decide)) | (rw [mL_len]; decide) | (simp only [mL_set]; exact mL_get (by decide)) | (simp only [mL_set, mL_len]; decide) | (exact va_eq) | (exact (va_ne (by omega)).trans (by assumption)) | (exact (va_ne (by omega)).trans va_eq) | (exact (va_ne (by omega)).trans ((va_ne (by omega)).trans (by assumption))) | (exact (va_ne (by omega)).trans ((va_ne (by omega)).trans ((va_ne (by omega)).trans (by assumption)))) | rfl | (exact Or.inl rfl) | (exact Or.inr rfl) | omega | (exact Nat.le_of_ble_eq_true rfl) | decide | (exact ⟨by decide, rfl, by decide⟩)) (by first | assumption | (exact mL_get (by decide)) | (rw [mL_len]; decide) | (simp only [mL_set]; exact mL_get (by decide)) | (simp only [mL_set, mL_len]; decide) | (exact va_eq) | (exact (va_ne (by omega)).trans (by assumption)) | (exact (va_ne (by omega)).trans va_eq) | (exact (va_ne (by omega)).trans ((va_ne (by omega)).trans (by assumption))) | (exact (va_ne (by omega)).trans ((va_ne (by omega)).trans ((va_ne (by omega)).trans (by assumption)))) | rfl | (exact Or.inl rfl) | (exact Or.inr rfl) | omega | (exact Nat.le_of_ble_eq_true rfl) | decide | (exact ⟨by decide, rfl, by decide⟩)) (by first | assumption | (exact mL_get (by decide)) | (rw [mL_len]; decide) | (simp only [mL_set]; exact mL_get (by decide)) | (simp only [mL_set, mL_len]; decide) | (exact va_eq) | (exact (va_ne (by omega)).trans (by assumption)) | (exact (va_ne (by omega)).trans va_eq) | (exact (va_ne (by omega)).trans ((va_ne (by omega)).trans (by assumption))) | (exact (va_ne (by omega)).trans ((va_ne (by omega)).trans ((va_ne (by omega)).trans (by assumption)))) | rfl | (exact Or.inl rfl) | (exact Or.inr rfl) | omega | (exact Nat.le_of_ble_eq_true rfl) | decide | (exact ⟨by decide, rfl, by decide⟩)) ?_ ?_
        · intro z425
          first | (exact absurd z425 (by decide)) | (exact absurd (by decide) z425) | (exact absurd rfl z425) | (exact absurd z425 (of_nn (by omega))) | (exact absurd (of_np (by omega)) z425) | omega
        · intro z425
          show mi_W _ _ _ _ _ (n, sl, (mr_w 511 σ0.n (Int32.ofNat σ2.n) z3).f) _
          have hz3 := mr_w_st (q := 511) (m := σ0.n) (v := Int32.ofNat σ2.n) hy3 (by decide)
          have hg0 := (hg0.trans hg3).w (q := 511) (m := σ0.n) (v := Int32.ofNat σ2.n) (by decide) (Nat.le_refl _)
          have hA := (mr_w_ne (q := 511) (m := σ0.n) (v := Int32.ofNat σ2.n) (z := z3) (q' := 509) (i := σ0.n) (fun e => absurd e.1 (by decide))).trans hA
          have hF2 := (mr_w_ne (q := 511) (m := σ0.n) (v := Int32.ofNat σ2.n) (z := z3) (q' := 510) (i := σ0.n) (fun e => absurd e.1 (by decide))).trans hF2
          have hF3 := mr_w_at (q := 511) (m := σ0.n) (v := Int32.ofNat σ2.n) (z := z3)
          have hr2 := mr_w_rg (q := 511) (m := σ0.n) (v := Int32.ofNat σ2.n) hr2 (by omega)
          have hr3 := mr_w_rg (q := 511) (m := σ0.n) (v := Int32.ofNat σ2.n) hr3 (by omega)
          generalize hw3 : mr_w 511 σ0.n (Int32.ofNat σ2.n) z3 = w3 at *
          have q505 := hz3.1.1
          refine b_167_430 _ _ _ ?_
          refine b_167_435 _ _ _ ?_
          refine sq_fO (op := op) hn hz3 hj (fun hzf => ?_)
          have ht : (σ3.set σ0.n (op, 0, 0, 0, 0, σ1.n, σ2.n, 0, 0, 0)).tb σ0.n = (op, 0, 0, 0, 0, σ1.n, σ2.n, 0, 0, 0) := va_eq
          refine ok _ (σ3.set σ0.n (op, 0, 0, 0, 0, σ1.n, σ2.n, 0, 0, 0)) hsp h403 hzf ((hg0.x22).set (Nat.le_refl _)) ?_ ?_
          · intro i hi1 hi2
            have hi2 : i < σ3.n := hi2
            by_cases ei : i = σ0.n
            · rw [ei, ht]
              rcases hop with rfl | rfl | rfl | rfl | rfl
              all_goals exact ⟨hA, mz_nf, mz_nf, mz_nf, mz_nf, mz_nf, fun _ => hF2, mz_nf, mz_nf, mz_nf, fun _ => hF3, mz_nf, mz_nf, mz_nf, mz_nf⟩
            · have hte : (σ3.set σ0.n (op, 0, 0, 0, 0, σ1.n, σ2.n, 0, 0, 0)).tb i = σ3.tb i := va_ne ei
              rw [hte]
              rcases (by omega : i < σ2.n ∨ σ2.n ≤ i) with hh | hh
              · exact (hr2 i (by omega) (by omega)).kp mr_x22_kp
              · exact (hr3 i (by omega) (by omega)).kp mr_x22_kp
          · unfold mz_ok
            rw [ht]
            rcases hop with rfl | rfl | rfl | rfl | rfl
            all_goals exact ⟨by show σ0.n < σ3.n; omega, rfl, ⟨mz_nf, mz_nf, mz_nf⟩, fun _ => ⟨by show σ0.n < σ1.n; omega, hm2.set (by omega)⟩, mz_nf, fun _ => ⟨by show σ0.n < σ2.n; omega, hm3.set (by omega)⟩, mz_nf⟩
      · have hbadF : ms_bad (ms_E g L (j + 1) true σ0) w := by rw [hsp]; exact hbad.bind (fun x σ' h => by exact ⟨h, rfl⟩)
        have q505 := he.1.1
        have qAA := he.1.2.1 (510, 800) (by decide)
        have qAB := he.1.2.1 (511, 800) (by decide)
        have he0 := hg0.er he
        refine b_167_425 _ _ _ _ _ _ (by first | assumption | (exact mL_get (by decide)) | (rw [mL_len]; decide) | (simp only [mL_set]; exact mL_get (by decide)) | (simp only [mL_set, mL_len]; decide) | (exact va_eq) | (exact (va_ne (by omega)).trans (by assumption)) | (exact (va_ne (by omega)).trans va_eq) | (exact (va_ne (by omega)).trans ((va_ne (by omega)).trans (by assumption))) | (exact (va_ne (by omega)).trans ((va_ne (by omega)).trans ((va_ne (by omega)).trans (by assumption)))) | rfl | (exact Or.inl rfl) | (exact Or.inr rfl) | omega | (exact Nat.le_of_ble_eq_true rfl) | decide | (exact ⟨by decide, rfl, by decide⟩)) (by first | assumption | (exact mL_get (by decide)) | (rw [mL_len]; decide) | (simp only [mL_set]; exact mL_get (by decide)) | (simp only [mL_set, mL_len]; decide) | (exact va_eq) | (exact (va_ne (by omega)).trans (by assumption)) | (exact (va_ne (by omega)).trans va_eq) | (exact (va_ne (by omega)).trans ((va_ne (by omega)).trans (by assumption))) | (exact (va_ne (by omega)).trans ((va_ne (by omega)).trans ((va_ne (by omega)).trans (by assumption)))) | rfl | (exact Or.inl rfl) | (exact Or.inr rfl) | omega | (exact Nat.le_of_ble_eq_true rfl) | decide | (exact ⟨by decide, rfl, by decide⟩)) (by first | assumption | (exact mL_get (by decide)) | (rw [mL_len]; decide) | (simp only [mL_set]; exact mL_get (by decide)) | (simp only [mL_set, mL_len]; decide) | (exact va_eq) | (exact (va_ne (by omega)).trans (by assumption)) | (exact (va_ne (by omega)).trans va_eq) | (exact (va_ne (by omega)).trans ((va_ne (by omega)).trans (by assumption))) | (exact (va_ne (by omega)).trans ((va_ne (by omega)).trans ((va_ne (by omega)).trans (by assumption)))) | rfl | (exact Or.inl rfl) | (exact Or.inr rfl) | omega | (exact Nat.le_of_ble_eq_true rfl) | decide | (exact ⟨by decide, rfl, by decide⟩)) ?_ ?_
        · intro z425
          show mi_W _ _ _ _ _ (n, sl, (mr_w 511 σ0.n (-1) ze).f) _
          have he0 := mr_w_er (q := 511) (m := σ0.n) (v := -1) he0 (by decide)
          have q505 := he0.1.1
          refine b_167_434 _ _ _ ?_
          refine b_167_435 _ _ _ ?_
          exact sq_gO hn he0 (fun z' he' => er z' w hbadF he')
        · intro z425
          first | (exact absurd z425 (by decide)) | (exact absurd (by decide) z425) | (exact absurd rfl z425) | (exact absurd z425 (of_nn (by omega))) | (exact absurd (of_np (by omega)) z425) | omega
  · have hbadF : ms_bad (ms_E g L (j + 1) true σ0) w := by rw [hsp]; exact hbad.bind (fun x σ' h => by rw [ms_E_odd h, ms_eb_er]; exact rfl)
    have q505 := he.1.1
    have qAA := he.1.2.1 (510, 800) (by decide)
    have qAB := he.1.2.1 (511, 800) (by decide)
    have he0 := hg0.er he
    refine b_167_411 _ _ _ _ _ _ (by first | assumption | (exact mL_get (by decide)) | (rw [mL_len]; decide) | (simp only [mL_set]; exact mL_get (by decide)) | (simp only [mL_set, mL_len]; decide) | (exact va_eq) | (exact (va_ne (by omega)).trans (by assumption)) | (exact (va_ne (by omega)).trans va_eq) | (exact (va_ne (by omega)).trans ((va_ne (by omega)).trans (by assumption))) | (exact (va_ne (by omega)).trans ((va_ne (by omega)).trans ((va_ne (by omega)).trans (by assumption)))) | rfl | (exact Or.inl rfl) | (exact Or.inr rfl) | omega | (exact Nat.le_of_ble_eq_true rfl) | decide | (exact ⟨by decide, rfl, by decide⟩)) (by first | assumption | (exact mL_get (by decide)) | (rw [mL_len]; decide) | (simp only [mL_set]; exact mL_get (by decide)) | (simp only [mL_set, mL_len]; decide) | (exact va_eq) | (exact (va_ne (by omega)).trans (by assumption)) | (exact (va_ne (by omega)).trans va_eq) | (exact (va_ne (by omega)).trans ((va_ne (by omega)).trans (by assumption))) | (exact (va_ne (by omega)).trans ((va_ne (by omega)).trans ((va_ne (by omega)).trans (by assumption)))) | rfl | (exact Or.inl rfl) | (exact Or.inr rfl) | omega | (exact Nat.le_of_ble_eq_true rfl) | decide | (exact ⟨by decide, rfl, by decide⟩)) (by first | assumption | (exact mL_get (by decide)) | (rw [mL_len]; decide) | (simp only [mL_set]; exact mL_get (by decide)) | (simp only [mL_set, mL_len]; decide) | (exact va_eq) | (exact (va_ne (by omega)).trans (by assumption)) | (exact (va_ne (by omega)).trans va_eq) | (exact (va_ne (by omega)).trans ((va_ne (by omega)).trans (by assumption))) | (exact (va_ne (by omega)).trans ((va_ne (by omega)).trans ((va_ne (by omega)).trans (by assumption)))) | rfl | (exact Or.inl rfl) | (exact Or.inr rfl) | omega | (exact Nat.le_of_ble_eq_true rfl) | decide | (exact ⟨by decide, rfl, by decide⟩)) ?_ ?_
    · intro z411
      show mi_W _ _ _ _ _ (n, sl, (mr_w 510 σ0.n (-1) ze).f) _
      have he0 := mr_w_er (q := 510) (m := σ0.n) (v := -1) he0 (by decide)
      have q505 := he0.1.1
      refine b_167_434 _ _ _ ?_
      refine b_167_435 _ _ _ ?_
      exact sq_gO hn he0 (fun z' he' => er z' w hbadF he')
    · intro z411
      first | (exact absurd z411 (by decide)) | (exact absurd (by decide) z411) | (exact absurd rfl z411) | (exact absurd z411 (of_nn (by omega))) | (exact absurd (of_np (by omega)) z411) | omega
theorem sq_cO399 (hn : 575 ≤ n) (hd : j + 1 ≤ e) (hj : j < 100) (IH : mr_IE n sl s g L j) (hz1 : mr_st n s g L z1 (σ0.add.nx g L) j) (hg0 : mr_go z0 σ0 z1 (σ0.add.nx g L)) (h401 : ¬ (σ0.add.nx g L).t.k = 40) (hA : z1.I 509 σ0.n = Int32.ofNat op) (hop : op = 22 ∨ op = 23) (hsp : ms_E g L (j + 1) true σ0 = ms_bd g L (ms_E g L j) op σ0.n σ0.t.v (σ0.add.nx g L)) (ok : mr_okE n sl s g L Q z0 σ0 (j + 1) true) (er : mr_erE n sl s g L Q z0 σ0 (j + 1) true) : mi_W (e + 14) 167 399 [some (.ref 505), some (.int (Int32.ofNat op)), some (.int (Int32.ofNat σ0.n)), some (.int 1)] [] (n, sl, z1.f) Q := by
  have hn80 : (σ0.add.nx g L).n ≤ 800 := hz1.2.2.2.2.1.2
  have hn1 : (σ0.add.nx g L).n = σ0.n + 1 := rfl
  have hm8 : σ0.n < 800 := by omega
  have hxm := ix_of (w := σ0.n) (m := 800) (by omega) (by omega)
  rw [ms_bd0 (by rcases hop with rfl | rfl <;> rfl)] at hsp
  generalize hσ1 : σ0.add.nx g L = σ1 at *
  have q505 := hz1.1.1
  refine b_167_399 _ _ _ ?_
  refine sq_fO (op := op) hn hz1 hj (fun hzf => ?_)
  have ht : (σ1.set σ0.n (op, 0, 0, 0, (if op = 10 then σ0.t.v else 0), 0, 0, 0, 0, 0)).tb σ0.n = (op, 0, 0, 0, (if op = 10 then σ0.t.v else 0), 0, 0, 0, 0, 0) := va_eq
  refine ok _ (σ1.set σ0.n (op, 0, 0, 0, (if op = 10 then σ0.t.v else 0), 0, 0, 0, 0, 0)) hsp h401 hzf ((hg0.x22).set (Nat.le_refl _)) ?_ ?_
  · intro i hi1 hi2
    have hi2 : i < σ1.n := hi2
    by_cases ei : i = σ0.n
    · rw [ei, ht]
      rcases hop with rfl | rfl
      all_goals exact ⟨hA, mz_nf, mz_nf, mz_nf, mz_nf, mz_nf, mz_nf, mz_nf, mz_nf, mz_nf, mz_nf, mz_nf, mz_nf, mz_nf, mz_nf⟩
    · have hte : (σ1.set σ0.n (op, 0, 0, 0, (if op = 10 then σ0.t.v else 0), 0, 0, 0, 0, 0)).tb i = σ1.tb i := va_ne ei
      rw [hte]
      omega
  · unfold mz_ok
    rw [ht]
    rcases hop with rfl | rfl
    all_goals exact ⟨by show σ0.n < σ1.n; omega, rfl, ⟨mz_nf, mz_nf, mz_nf⟩, fun h => h.elim mz_nf mz_nf, mz_nf, fun h => h.elim mz_nf (fun h => h.elim mz_nf mz_nf), mz_nf⟩
end
