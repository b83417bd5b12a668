/-! the second object's reading: values and truths come to their ends -/
theorem mz_ok.mono {tb : Nat → ms_N} {hi : Nat} : ∀ (k s i : Nat), mz_ok tb hi k s i → mz_ok tb hi (k + 1) s i := by
  intro k
  induction k with
  | zero => intro s i h; exact False.elim h
  | succ k ih =>
    intro s i h
    have h' := h
    unfold mz_ok at h'
    obtain ⟨h1, h2, h3, h4, h5, h6, h7⟩ := h'
    unfold mz_ok
    exact ⟨h1, h2, h3, fun a => ⟨(h4 a).1, ih _ _ (h4 a).2⟩, fun a => mz_ls.to (lo := 0) (Nat.le_refl _) (fun s j _ => ih s j) (fun _ _ _ => rfl) _ _ _ (Nat.zero_le _) (h5 a), fun a => ⟨(h6 a).1, ih _ _ (h6 a).2⟩, fun a => ⟨(h7 a).1, ih _ _ (h7 a).2⟩⟩
section
variable {g : Nat → Int32} {L k op : Nat} {b : Bool} {σ : ms_S}
theorem ms_E_s : ms_E g L (k + 1) b σ = if σ.t.k = ms_kc 40 then ms_eb (ms_E g L k b (σ.nx g L)) (fun _ σ => ms_need g L (ms_kc 41) σ) else match ms_op b σ.t.k with
    | none => .error σ.t.a
    | some op => if σ.n = 800 then .error σ.t.a else ms_bd g L (ms_E g L k) op σ.n σ.t.v (σ.add.nx g L) := rfl
theorem ms_E_b (h : σ.t.k = ms_kc 40) : ms_E g L (k + 1) b σ = ms_eb (ms_E g L k b (σ.nx g L)) (fun _ σ => ms_need g L (ms_kc 41) σ) := by rw [ms_E_s, if_pos h]
theorem ms_E_n (h : ¬ σ.t.k = ms_kc 40) (ho : ms_op b σ.t.k = none) : ms_E g L (k + 1) b σ = .error σ.t.a := by rw [ms_E_s, if_neg h, ho]
theorem ms_E_8 (h : ¬ σ.t.k = ms_kc 40) (ho : ms_op b σ.t.k = some op) (h8 : σ.n = 800) : ms_E g L (k + 1) b σ = .error σ.t.a := by
  rw [ms_E_s, if_neg h, ho]
  show (if σ.n = 800 then _ else _) = _
  rw [if_pos h8]
theorem ms_E_o (h : ¬ σ.t.k = ms_kc 40) (ho : ms_op b σ.t.k = some op) (h8 : ¬ σ.n = 800) : ms_E g L (k + 1) b σ = ms_bd g L (ms_E g L k) op σ.n σ.t.v (σ.add.nx g L) := by
  rw [ms_E_s, if_neg h, ho]
  show (if σ.n = 800 then _ else _) = _
  rw [if_neg h8]
theorem ms_op10 {t : Nat} (h : ms_op false t = some 10) : t = 37 := by
  rw [ms_opV] at h
  split at h
  · assumption
  · repeat' split at h
    all_goals exact absurd h (by decide)
theorem ms_op_V {t : Nat} (h : ms_op false t = some op) : (op = 11 ∨ op = 12 ∨ op = 17 ∨ op = 18 ∨ op = 21) ∨ (op = 13 ∨ op = 14 ∨ op = 15 ∨ op = 16) ∨ (op = 10 ∨ op = 19 ∨ op = 20) := by
  rw [ms_opV] at h
  repeat' split at h
  all_goals first | (cases h; decide) | (cases h)
theorem ms_op_O {t : Nat} (h : ms_op true t = some op) : (op = 24 ∨ op = 25 ∨ op = 26 ∨ op = 27) ∨ (op = 28 ∨ op = 29 ∨ op = 30 ∨ op = 31 ∨ op = 32) ∨ (op = 22 ∨ op = 23) := by
  rw [ms_opO] at h
  repeat' split at h
  all_goals first | (cases h; decide) | (cases h)
end
section
variable {d n sl k : Nat} {z : mr_Z} {σ : ms_S} {s : Value} {Q : (Option Value ⊕ Nat) → mi_H → Prop} {g : Nat → Int32} {L : Nat}
theorem sq_need {c : Nat} {a : Int32} (hn : 575 ≤ n) (hz : mr_st n s g L z σ k) (ha : a = 1 ∧ σ.t.k = c ∨ a = 0 ∧ ¬ σ.t.k = c) (k1 : ∀ z', ¬ (σ.nx g L).t.k = 40 → ms_need g L c σ = .ok ((), σ.nx g L) → mr_st n s g L z' (σ.nx g L) k → mr_go z σ z' (σ.nx g L) → z'.I = z.I → z'.J = z.J → Q (.inl (some (.int 1))) (n, sl, z'.f)) (k0 : ∀ z' w, ms_bad (ms_need g L c σ) w → mr_er n s z z' w → Q (.inl (some (.int 0))) (n, sl, z'.f)) : mi_W (d + 1 + 1 + 1 + 1 + 1 + 1) 155 0 (mi_en 2 [.ref 505, .int a]) [] (n, sl, z.f) Q := by
  rcases ha with ⟨rfl, h⟩ | ⟨rfl, h⟩
  · exact sq_need1 hn hz h k1 k0
  · exact sq_need0 hn hz h k0
theorem sq_E (hn : 575 ≤ n) : ∀ k, mr_IE n sl s g L k := by
  intro k
  induction k with
  | zero =>
    intro b d z σ Q hd hz ok er
    obtain ⟨e, rfl⟩ : ∃ e, d = e + 14 := ⟨d - 14, by omega⟩
    have q505 := hz.1.1
    cases b
    · skip
      show mi_W (e + 14) 163 0 (mi_en 4 [.ref 505]) [] (n, sl, z.f) Q
      refine b_163_0 _ _ _ (by first | assumption | (exact mL_get (by decide)) | (rw [mL_len]; decide) | (simp only [mL_set]; exact mL_get (by decide)) | (simp only [mL_set, mL_len]; decide) | (exact va_eq) | (exact (va_ne (by omega)).trans (by assumption)) | (exact (va_ne (by omega)).trans va_eq) | (exact (va_ne (by omega)).trans ((va_ne (by omega)).trans (by assumption))) | (exact (va_ne (by omega)).trans ((va_ne (by omega)).trans ((va_ne (by omega)).trans (by assumption)))) | rfl | (exact Or.inl rfl) | (exact Or.inr rfl) | omega | (exact Nat.le_of_ble_eq_true rfl) | decide | (exact ⟨by decide, rfl, by decide⟩)) (by first | assumption | (exact mL_get (by decide)) | (rw [mL_len]; decide) | (simp only [mL_set]; exact mL_get (by decide)) | (simp only [mL_set, mL_len]; decide) | (exact va_eq) | (exact (va_ne (by omega)).trans (by assumption)) | (exact (va_ne (by omega)).trans va_eq) | (exact (va_ne (by omega)).trans ((va_ne (by omega)).trans (by assumption))) | (exact (va_ne (by omega)).trans ((va_ne (by omega)).trans ((va_ne (by omega)).trans (by assumption)))) | rfl | (exact Or.inl rfl) | (exact Or.inr rfl) | omega | (exact Nat.le_of_ble_eq_true rfl) | decide | (exact ⟨by decide, rfl, by decide⟩)) ?_
      refine sq_sign hn hz (by decide) (fun h => ?_) (fun h => ?_)
      · refine b_163_7 _ _ _ ?_ ?_
        · intro z7
          first | (exact absurd z7 (by decide)) | (exact absurd (by decide) z7) | (exact absurd rfl z7) | (exact absurd z7 (of_nn (by omega))) | (exact absurd (of_np (by omega)) z7) | omega
        · intro z7
          refine b_163_10 _ _ _ (by first | assumption | (exact mL_get (by decide)) | (rw [mL_len]; decide) | (simp only [mL_set]; exact mL_get (by decide)) | (simp only [mL_set, mL_len]; decide) | (exact va_eq) | (exact (va_ne (by omega)).trans (by assumption)) | (exact (va_ne (by omega)).trans va_eq) | (exact (va_ne (by omega)).trans ((va_ne (by omega)).trans (by assumption))) | (exact (va_ne (by omega)).trans ((va_ne (by omega)).trans ((va_ne (by omega)).trans (by assumption)))) | rfl | (exact Or.inl rfl) | (exact Or.inr rfl) | omega | (exact Nat.le_of_ble_eq_true rfl) | decide | (exact ⟨by decide, rfl, by decide⟩)) (by first | assumption | (exact mL_get (by decide)) | (rw [mL_len]; decide) | (simp only [mL_set]; exact mL_get (by decide)) | (simp only [mL_set, mL_len]; decide) | (exact va_eq) | (exact (va_ne (by omega)).trans (by assumption)) | (exact (va_ne (by omega)).trans va_eq) | (exact (va_ne (by omega)).trans ((va_ne (by omega)).trans (by assumption))) | (exact (va_ne (by omega)).trans ((va_ne (by omega)).trans ((va_ne (by omega)).trans (by assumption)))) | rfl | (exact Or.inl rfl) | (exact Or.inr rfl) | omega | (exact Nat.le_of_ble_eq_true rfl) | decide | (exact ⟨by decide, rfl, by decide⟩)) ?_
          refine sq_open hn hz (fun j z1 hj _ _ _ _ _ => ?_) (fun z1 hk0 he => ?_)
          · exact absurd hj (by omega)
          · have q505 := he.1.1
            refine b_163_14 _ _ _ ?_ ?_
            · intro z14
              refine b_163_24 _ _ _ ?_
              exact er z1 _ rfl he
            · intro z14
              first | (exact absurd z14 (by decide)) | (exact absurd (by decide) z14) | (exact absurd rfl z14) | (exact absurd z14 (of_nn (by omega))) | (exact absurd (of_np (by omega)) z14) | omega
      · refine b_163_7 _ _ _ ?_ ?_
        · intro z7
          refine sq_dN hn hz (fun op hop => ?_) (fun z' ho he => er z' _ rfl he)
          refine sq_bN hn hz (fun j z1 hj => absurd hj (by omega)) (fun z' w hw he => er z' w ?_ he)
          rcases hw with ⟨_, hw⟩ | ⟨j, hj, _⟩
          · exact hw.symm
          · exact absurd hj (by omega)
        · intro z7
          first | (exact absurd z7 (by decide)) | (exact absurd (by decide) z7) | (exact absurd rfl z7) | (exact absurd z7 (of_nn (by omega))) | (exact absurd (of_np (by omega)) z7) | omega
    · skip
      show mi_W (e + 14) 167 0 (mi_en 4 [.ref 505]) [] (n, sl, z.f) Q
      refine b_167_0 _ _ _ (by first | assumption | (exact mL_get (by decide)) | (rw [mL_len]; decide) | (simp only [mL_set]; exact mL_get (by decide)) | (simp only [mL_set, mL_len]; decide) | (exact va_eq) | (exact (va_ne (by omega)).trans (by assumption)) | (exact (va_ne (by omega)).trans va_eq) | (exact (va_ne (by omega)).trans ((va_ne (by omega)).trans (by assumption))) | (exact (va_ne (by omega)).trans ((va_ne (by omega)).trans ((va_ne (by omega)).trans (by assumption)))) | rfl | (exact Or.inl rfl) | (exact Or.inr rfl) | omega | (exact Nat.le_of_ble_eq_true rfl) | decide | (exact ⟨by decide, rfl, by decide⟩)) (by first | assumption | (exact mL_get (by decide)) | (rw [mL_len]; decide) | (simp only [mL_set]; exact mL_get (by decide)) | (simp only [mL_set, mL_len]; decide) | (exact va_eq) | (exact (va_ne (by omega)).trans (by assumption)) | (exact (va_ne (by omega)).trans va_eq) | (exact (va_ne (by omega)).trans ((va_ne (by omega)).trans (by assumption))) | (exact (va_ne (by omega)).trans ((va_ne (by omega)).trans ((va_ne (by omega)).trans (by assumption)))) | rfl | (exact Or.inl rfl) | (exact Or.inr rfl) | omega | (exact Nat.le_of_ble_eq_true rfl) | decide | (exact ⟨by decide, rfl, by decide⟩)) ?_
      refine sq_sign hn hz (by decide) (fun h => ?_) (fun h => ?_)
      · refine b_167_7 _ _ _ ?_ ?_
        · intro z7
          first | (exact absurd z7 (by decide)) | (exact absurd (by decide) z7) | (exact absurd rfl z7) | (exact absurd z7 (of_nn (by omega))) | (exact absurd (of_np (by omega)) z7) | omega
        · intro z7
          refine b_167_10 _ _ _ (by first | assumption | (exact mL_get (by decide)) | (rw [mL_len]; decide) | (simp only [mL_set]; exact mL_get (by decide)) | (simp only [mL_set, mL_len]; decide) | (exact va_eq) | (exact (va_ne (by omega)).trans (by assumption)) | (exact (va_ne (by omega)).trans va_eq) | (exact (va_ne (by omega)).trans ((va_ne (by omega)).trans (by assumption))) | (exact (va_ne (by omega)).trans ((va_ne (by omega)).trans ((va_ne (by omega)).trans (by assumption)))) | rfl | (exact Or.inl rfl) | (exact Or.inr rfl) | omega | (exact Nat.le_of_ble_eq_true rfl) | decide | (exact ⟨by decide, rfl, by decide⟩)) (by first | assumption | (exact mL_get (by decide)) | (rw [mL_len]; decide) | (simp only [mL_set]; exact mL_get (by decide)) | (simp only [mL_set, mL_len]; decide) | (exact va_eq) | (exact (va_ne (by omega)).trans (by assumption)) | (exact (va_ne (by omega)).trans va_eq) | (exact (va_ne (by omega)).trans ((va_ne (by omega)).trans (by assumption))) | (exact (va_ne (by omega)).trans ((va_ne (by omega)).trans ((va_ne (by omega)).trans (by assumption)))) | rfl | (exact Or.inl rfl) | (exact Or.inr rfl) | omega | (exact Nat.le_of_ble_eq_true rfl) | decide | (exact ⟨by decide, rfl, by decide⟩)) ?_
          refine sq_open hn hz (fun j z1 hj _ _ _ _ _ => ?_) (fun z1 hk0 he => ?_)
          · exact absurd hj (by omega)
          · have q505 := he.1.1
            refine b_167_14 _ _ _ ?_ ?_
            · intro z14
              refine b_167_24 _ _ _ ?_
              exact er z1 _ rfl he
            · intro z14
              first | (exact absurd z14 (by decide)) | (exact absurd (by decide) z14) | (exact absurd rfl z14) | (exact absurd z14 (of_nn (by omega))) | (exact absurd (of_np (by omega)) z14) | omega
      · refine b_167_7 _ _ _ ?_ ?_
        · intro z7
          refine sq_dO hn hz (fun op hop => ?_) (fun z' ho he => er z' _ rfl he)
          refine sq_bO hn hz (fun j z1 hj => absurd hj (by omega)) (fun z' w hw he => er z' w ?_ he)
          rcases hw with ⟨_, hw⟩ | ⟨j, hj, _⟩
          · exact hw.symm
          · exact absurd hj (by omega)
        · intro z7
          first | (exact absurd z7 (by decide)) | (exact absurd (by decide) z7) | (exact absurd rfl z7) | (exact absurd z7 (of_nn (by omega))) | (exact absurd (of_np (by omega)) z7) | omega
  | succ k ih =>
    intro b d z σ Q hd hz ok er
    obtain ⟨e, rfl⟩ : ∃ e, d = e + 14 := ⟨d - 14, by omega⟩
    have q505 := hz.1.1
    cases b
    · skip
      show mi_W (e + 14) 163 0 (mi_en 4 [.ref 505]) [] (n, sl, z.f) Q
      have hk100 : k + 1 ≤ 100 := hz.2.2.2.2.2.1.2
      refine b_163_0 _ _ _ (by first | assumption | (exact mL_get (by decide)) | (rw [mL_len]; decide) | (simp only [mL_set]; exact mL_get (by decide)) | (simp only [mL_set, mL_len]; decide) | (exact va_eq) | (exact (va_ne (by omega)).trans (by assumption)) | (exact (va_ne (by omega)).trans va_eq) | (exact (va_ne (by omega)).trans ((va_ne (by omega)).trans (by assumption))) | (exact (va_ne (by omega)).trans ((va_ne (by omega)).trans ((va_ne (by omega)).trans (by assumption)))) | rfl | (exact Or.inl rfl) | (exact Or.inr rfl) | omega | (exact Nat.le_of_ble_eq_true rfl) | decide | (exact ⟨by decide, rfl, by decide⟩)) (by first | assumption | (exact mL_get (by decide)) | (rw [mL_len]; decide) | (simp only [mL_set]; exact mL_get (by decide)) | (simp only [mL_set, mL_len]; decide) | (exact va_eq) | (exact (va_ne (by omega)).trans (by assumption)) | (exact (va_ne (by omega)).trans va_eq) | (exact (va_ne (by omega)).trans ((va_ne (by omega)).trans (by assumption))) | (exact (va_ne (by omega)).trans ((va_ne (by omega)).trans ((va_ne (by omega)).trans (by assumption)))) | rfl | (exact Or.inl rfl) | (exact Or.inr rfl) | omega | (exact Nat.le_of_ble_eq_true rfl) | decide | (exact ⟨by decide, rfl, by decide⟩)) ?_
      refine sq_sign hn hz (by decide) (fun hp => ?_) (fun hp => ?_)
      · have hsp := ms_E_b (g := g) (L := L) (k := k) (b := false) hp
        refine b_163_7 _ _ _ ?_ ?_
        · intro z7
          first | (exact absurd z7 (by decide)) | (exact absurd (by decide) z7) | (exact absurd rfl z7) | (exact absurd z7 (of_nn (by omega))) | (exact absurd (of_np (by omega)) z7) | omega
        · intro z7
          refine b_163_10 _ _ _ (by first | assumption | (exact mL_get (by decide)) | (rw [mL_len]; decide) | (simp only [mL_set]; exact mL_get (by decide)) | (simp only [mL_set, mL_len]; decide) | (exact va_eq) | (exact (va_ne (by omega)).trans (by assumption)) | (exact (va_ne (by omega)).trans va_eq) | (exact (va_ne (by omega)).trans ((va_ne (by omega)).trans (by assumption))) | (exact (va_ne (by omega)).trans ((va_ne (by omega)).trans ((va_ne (by omega)).trans (by assumption)))) | rfl | (exact Or.inl rfl) | (exact Or.inr rfl) | omega | (exact Nat.le_of_ble_eq_true rfl) | decide | (exact ⟨by decide, rfl, by decide⟩)) (by first | assumption | (exact mL_get (by decide)) | (rw [mL_len]; decide) | (simp only [mL_set]; exact mL_get (by decide)) | (simp only [mL_set, mL_len]; decide) | (exact va_eq) | (exact (va_ne (by omega)).trans (by assumption)) | (exact (va_ne (by omega)).trans va_eq) | (exact (va_ne (by omega)).trans ((va_ne (by omega)).trans (by assumption))) | (exact (va_ne (by omega)).trans ((va_ne (by omega)).trans ((va_ne (by omega)).trans (by assumption)))) | rfl | (exact Or.inl rfl) | (exact Or.inr rfl) | omega | (exact Nat.le_of_ble_eq_true rfl) | decide | (exact ⟨by decide, rfl, by decide⟩)) ?_
          refine sq_open hn hz (fun j z1 hj hz1 hg1 hI1 hJ1 hY1 => ?_) (fun z1 hk0 he => ?_)
          · obtain rfl : j = k := by omega
            have q505 := hz1.1.1
            refine b_163_14 _ _ _ ?_ ?_
            · intro z14
              first | (exact absurd z14 (by decide)) | (exact absurd (by decide) z14) | (exact absurd rfl z14) | (exact absurd z14 (of_nn (by omega))) | (exact absurd (of_np (by omega)) z14) | omega
            · intro z14
              refine b_163_17 _ _ _ (by first | assumption | (exact mL_get (by decide)) | (rw [mL_len]; decide) | (simp only [mL_set]; exact mL_get (by decide)) | (simp only [mL_set, mL_len]; decide) | (exact va_eq) | (exact (va_ne (by omega)).trans (by assumption)) | (exact (va_ne (by omega)).trans va_eq) | (exact (va_ne (by omega)).trans ((va_ne (by omega)).trans (by assumption))) | (exact (va_ne (by omega)).trans ((va_ne (by omega)).trans ((va_ne (by omega)).trans (by assumption)))) | rfl | (exact Or.inl rfl) | (exact Or.inr rfl) | omega | (exact Nat.le_of_ble_eq_true rfl) | decide | (exact ⟨by decide, rfl, by decide⟩)) (by first | assumption | (exact mL_get (by decide)) | (rw [mL_len]; decide) | (simp only [mL_set]; exact mL_get (by decide)) | (simp only [mL_set, mL_len]; decide) | (exact va_eq) | (exact (va_ne (by omega)).trans (by assumption)) | (exact (va_ne (by omega)).trans va_eq) | (exact (va_ne (by omega)).trans ((va_ne (by omega)).trans (by assumption))) | (exact (va_ne (by omega)).trans ((va_ne (by omega)).trans ((va_ne (by omega)).trans (by assumption)))) | rfl | (exact Or.inl rfl) | (exact Or.inr rfl) | omega | (exact Nat.le_of_ble_eq_true rfl) | decide | (exact ⟨by decide, rfl, by decide⟩)) ?_
              refine sq_next hn hz1 (fun z2 h402 hz2 hg2 hI2 hJ2 => ?_) (fun z2 h402 he => ?_)
              · have q505 := hz2.1.1
                refine b_163_21 _ _ _ ?_ ?_
                · intro z21
                  refine b_163_26 _ _ _ (by first | assumption | (exact mL_get (by decide)) | (rw [mL_len]; decide) | (simp only [mL_set]; exact mL_get (by decide)) | (simp only [mL_set, mL_len]; decide) | (exact va_eq) | (exact (va_ne (by omega)).trans (by assumption)) | (exact (va_ne (by omega)).trans va_eq) | (exact (va_ne (by omega)).trans ((va_ne (by omega)).trans (by assumption))) | (exact (va_ne (by omega)).trans ((va_ne (by omega)).trans ((va_ne (by omega)).trans (by assumption)))) | rfl | (exact Or.inl rfl) | (exact Or.inr rfl) | omega | (exact Nat.le_of_ble_eq_true rfl) | decide | (exact ⟨by decide, rfl, by decide⟩)) (by first | assumption | (exact mL_get (by decide)) | (rw [mL_len]; decide) | (simp only [mL_set]; exact mL_get (by decide)) | (simp only [mL_set, mL_len]; decide) | (exact va_eq) | (exact (va_ne (by omega)).trans (by assumption)) | (exact (va_ne (by omega)).trans va_eq) | (exact (va_ne (by omega)).trans ((va_ne (by omega)).trans (by assumption))) | (exact (va_ne (by omega)).trans ((va_ne (by omega)).trans ((va_ne (by omega)).trans (by assumption)))) | rfl | (exact Or.inl rfl) | (exact Or.inr rfl) | omega | (exact Nat.le_of_ble_eq_true rfl) | decide | (exact ⟨by decide, rfl, by decide⟩)) ?_
                  refine ih false _ _ _ _ (by omega) hz2 (fun z3 σ3 hok3 h403 hz3 hg3 hr3 hm3 => ?_) (fun z3 w hbad he => ?_)
                  · have q505 := hz3.1.1
                    rw [hok3, ms_eb_ok] at hsp
                    have hn1 : (σ.nx g L).n = σ.n := rfl
                    have hn80 := hz.2.2.2.2.1.2
                    refine b_163_30 _ _ _ (by first | assumption | (exact mL_get (by decide)) | (rw [mL_len]; decide) | (simp only [mL_set]; exact mL_get (by decide)) | (simp only [mL_set, mL_len]; decide) | (exact va_eq) | (exact (va_ne (by omega)).trans (by assumption)) | (exact (va_ne (by omega)).trans va_eq) | (exact (va_ne (by omega)).trans ((va_ne (by omega)).trans (by assumption))) | (exact (va_ne (by omega)).trans ((va_ne (by omega)).trans ((va_ne (by omega)).trans (by assumption)))) | rfl | (exact Or.inl rfl) | (exact Or.inr rfl) | omega | (exact Nat.le_of_ble_eq_true rfl) | decide | (exact ⟨by decide, rfl, by decide⟩)) (by first | assumption | (exact mL_get (by decide)) | (rw [mL_len]; decide) | (simp only [mL_set]; exact mL_get (by decide)) | (simp only [mL_set, mL_len]; decide) | (exact va_eq) | (exact (va_ne (by omega)).trans (by assumption)) | (exact (va_ne (by omega)).trans va_eq) | (exact (va_ne (by omega)).trans ((va_ne (by omega)).trans (by assumption))) | (exact (va_ne (by omega)).trans ((va_ne (by omega)).trans ((va_ne (by omega)).trans (by assumption)))) | rfl | (exact Or.inl rfl) | (exact Or.inr rfl) | omega | (exact Nat.le_of_ble_eq_true rfl) | decide | (exact ⟨by decide, rfl, by decide⟩)) (by first | assumption | (exact mL_get (by decide)) | (rw [mL_len]; decide) | (simp only [mL_set]; exact mL_get (by decide)) | (simp only [mL_set, mL_len]; decide) | (exact va_eq) | (exact (va_ne (by omega)).trans (by assumption)) | (exact (va_ne (by omega)).trans va_eq) | (exact (va_ne (by omega)).trans ((va_ne (by omega)).trans (by assumption))) | (exact (va_ne (by omega)).trans ((va_ne (by omega)).trans ((va_ne (by omega)).trans (by assumption)))) | rfl | (exact Or.inl rfl) | (exact Or.inr rfl) | omega | (exact Nat.le_of_ble_eq_true rfl) | decide | (exact ⟨by decide, rfl, by decide⟩)) (by first | assumption | (exact mL_get (by decide)) | (rw [mL_len]; decide) | (simp only [mL_set]; exact mL_get (by decide)) | (simp only [mL_set, mL_len]; decide) | (exact va_eq) | (exact (va_ne (by omega)).trans (by assumption)) | (exact (va_ne (by omega)).trans va_eq) | (exact (va_ne (by omega)).trans ((va_ne (by omega)).trans (by assumption))) | (exact (va_ne (by omega)).trans ((va_ne (by omega)).trans ((va_ne (by omega)).trans (by assumption)))) | rfl | (exact Or.inl rfl) | (exact Or.inr rfl) | omega | (exact Nat.le_of_ble_eq_true rfl) | decide | (exact ⟨by decide, rfl, by decide⟩)) (by first | assumption | (exact mL_get (by decide)) | (rw [mL_len]; decide) | (simp only [mL_set]; exact mL_get (by decide)) | (simp only [mL_set, mL_len]; decide) | (exact va_eq) | (exact (va_ne (by omega)).trans (by assumption)) | (exact (va_ne (by omega)).trans va_eq) | (exact (va_ne (by omega)).trans ((va_ne (by omega)).trans (by assumption))) | (exact (va_ne (by omega)).trans ((va_ne (by omega)).trans ((va_ne (by omega)).trans (by assumption)))) | rfl | (exact Or.inl rfl) | (exact Or.inr rfl) | omega | (exact Nat.le_of_ble_eq_true rfl) | decide | (exact ⟨by decide, rfl, by decide⟩)) (by first | assumption | (exact mL_get (by decide)) | (rw [mL_len]; decide) | (simp only [mL_set]; exact mL_get (by decide)) | (simp only [mL_set, mL_len]; decide) | (exact va_eq) | (exact (va_ne (by omega)).trans (by assumption)) | (exact (va_ne (by omega)).trans va_eq) | (exact (va_ne (by omega)).trans ((va_ne (by omega)).trans (by assumption))) | (exact (va_ne (by omega)).trans ((va_ne (by omega)).trans ((va_ne (by omega)).trans (by assumption)))) | rfl | (exact Or.inl rfl) | (exact Or.inr rfl) | omega | (exact Nat.le_of_ble_eq_true rfl) | decide | (exact ⟨by decide, rfl, by decide⟩)) ?_ ?_
                    · intro z30
                      first | (exact absurd z30 (by decide)) | (exact absurd (by decide) z30) | (exact absurd rfl z30) | (exact absurd z30 (of_nn (by omega))) | (exact absurd (of_np (by omega)) z30) | omega
                    · intro z30
                      show mi_W _ _ _ _ _ (n, sl, (mr_x22 (z3.X 22 - 1) z3 s).f) _
                      have h22 : z3.X 22 = _ := hz3.2.2.2.2.2.1.1
                      have hz4 := mr_x22_st (v := z3.X 22 - 1) (j := j + 1) hz3 (by rw [h22, show (1 : Int32) = Int32.ofNat 1 from rfl, of_sub' (by omega), show 100 - j - 1 = 100 - (j + 1) by omega]) (by omega)
                      have hg4 := (((hg1.trans hg2).trans hg3)).x22 (v := z3.X 22 - 1) (s := s)
                      have hr4 : mr_rg (σ.nx g L).n σ3.n (mr_x22 (z3.X 22 - 1) z3 s) σ3 := hr3.to (fun _ _ _ => mr_x22_kp) (fun _ _ _ => rfl)
                      generalize hw4 : mr_x22 (z3.X 22 - 1) z3 s = z4 at *
                      have q505 := hz4.1.1
                      refine b_163_45 _ _ _ (by first | assumption | (exact mL_get (by decide)) | (rw [mL_len]; decide) | (simp only [mL_set]; exact mL_get (by decide)) | (simp only [mL_set, mL_len]; decide) | (exact va_eq) | (exact (va_ne (by omega)).trans (by assumption)) | (exact (va_ne (by omega)).trans va_eq) | (exact (va_ne (by omega)).trans ((va_ne (by omega)).trans (by assumption))) | (exact (va_ne (by omega)).trans ((va_ne (by omega)).trans ((va_ne (by omega)).trans (by assumption)))) | rfl | (exact Or.inl rfl) | (exact Or.inr rfl) | omega | (exact Nat.le_of_ble_eq_true rfl) | decide | (exact ⟨by decide, rfl, by decide⟩)) (by first | assumption | (exact mL_get (by decide)) | (rw [mL_len]; decide) | (simp only [mL_set]; exact mL_get (by decide)) | (simp only [mL_set, mL_len]; decide) | (exact va_eq) | (exact (va_ne (by omega)).trans (by assumption)) | (exact (va_ne (by omega)).trans va_eq) | (exact (va_ne (by omega)).trans ((va_ne (by omega)).trans (by assumption))) | (exact (va_ne (by omega)).trans ((va_ne (by omega)).trans ((va_ne (by omega)).trans (by assumption)))) | rfl | (exact Or.inl rfl) | (exact Or.inr rfl) | omega | (exact Nat.le_of_ble_eq_true rfl) | decide | (exact ⟨by decide, rfl, by decide⟩)) ?_
                      refine sq_sign hn hz4 (by decide) (fun hs => ?_) (fun hs => ?_)
                      · have ha : (1 : Int32) = 1 ∧ σ3.t.k = ms_kc 41 ∨ (1 : Int32) = 0 ∧ ¬ σ3.t.k = ms_kc 41 := Or.inl ⟨rfl, hs⟩
                        refine b_163_53 _ _ _ (by first | assumption | (exact mL_get (by decide)) | (rw [mL_len]; decide) | (simp only [mL_set]; exact mL_get (by decide)) | (simp only [mL_set, mL_len]; decide) | (exact va_eq) | (exact (va_ne (by omega)).trans (by assumption)) | (exact (va_ne (by omega)).trans va_eq) | (exact (va_ne (by omega)).trans ((va_ne (by omega)).trans (by assumption))) | (exact (va_ne (by omega)).trans ((va_ne (by omega)).trans ((va_ne (by omega)).trans (by assumption)))) | rfl | (exact Or.inl rfl) | (exact Or.inr rfl) | omega | (exact Nat.le_of_ble_eq_true rfl) | decide | (exact ⟨by decide, rfl, by decide⟩)) (by first | assumption | (exact mL_get (by decide)) | (rw [mL_len]; decide) | (simp only [mL_set]; exact mL_get (by decide)) | (simp only [mL_set, mL_len]; decide) | (exact va_eq) | (exact (va_ne (by omega)).trans (by assumption)) | (exact (va_ne (by omega)).trans va_eq) | (exact (va_ne (by omega)).trans ((va_ne (by omega)).trans (by assumption))) | (exact (va_ne (by omega)).trans ((va_ne (by omega)).trans ((va_ne (by omega)).trans (by assumption)))) | rfl | (exact Or.inl rfl) | (exact Or.inr rfl) | omega | (exact Nat.le_of_ble_eq_true rfl) | decide | (exact ⟨by decide, rfl, by decide⟩)) ?_
                        refine sq_need hn hz4 ha (fun z5 h405 hne5 hz5 hg5 hI5 hJ5 => ?_) (fun z5 w hbad he => ?_)
                        · refine b_163_56 _ _ _ ?_ ?_
                          · intro z56
                            first | (exact absurd z56 (by decide)) | (exact absurd (by decide) z56) | (exact absurd rfl z56) | (exact absurd z56 (of_nn (by omega))) | (exact absurd (of_np (by omega)) z56) | omega
                          · intro z56
                            refine b_163_59 _ _ _ ?_
                            refine b_163_64 _ _ _ ?_
                            exact ok z5 _ (hsp.trans hne5) h405 hz5 (hg4.trans hg5) (hr4.go hg5 (Nat.le_refl _)) ((hm3.go (hi' := (σ3.nx g L).n) hg5 (Nat.le_refl _) (Nat.le_refl _)).mono)
                        · have hbadF : ms_bad (ms_E g L (j + 1) false σ) w := by rw [hsp]; exact hbad
                          have he0 := hg4.er he
                          refine b_163_56 _ _ _ ?_ ?_
                          · intro z56
                            refine b_163_63 _ _ _ ?_
                            refine b_163_64 _ _ _ ?_
                            exact er _ w hbadF he0
                          · intro z56
                            first | (exact absurd z56 (by decide)) | (exact absurd (by decide) z56) | (exact absurd rfl z56) | (exact absurd z56 (of_nn (by omega))) | (exact absurd (of_np (by omega)) z56) | omega
                      · have ha : (0 : Int32) = 1 ∧ σ3.t.k = ms_kc 41 ∨ (0 : Int32) = 0 ∧ ¬ σ3.t.k = ms_kc 41 := Or.inr ⟨rfl, hs⟩
                        refine b_163_53 _ _ _ (by first | assumption | (exact mL_get (by decide)) | (rw [mL_len]; decide) | (simp only [mL_set]; exact mL_get (by decide)) | (simp only [mL_set, mL_len]; decide) | (exact va_eq) | (exact (va_ne (by omega)).trans (by assumption)) | (exact (va_ne (by omega)).trans va_eq) | (exact (va_ne (by omega)).trans ((va_ne (by omega)).trans (by assumption))) | (exact (va_ne (by omega)).trans ((va_ne (by omega)).trans ((va_ne (by omega)).trans (by assumption)))) | rfl | (exact Or.inl rfl) | (exact Or.inr rfl) | omega | (exact Nat.le_of_ble_eq_true rfl) | decide | (exact ⟨by decide, rfl, by decide⟩)) (by first | assumption | (exact mL_get (by decide)) | (rw [mL_len]; decide) | (simp only [mL_set]; exact mL_get (by decide)) | (simp only [mL_set, mL_len]; decide) | (exact va_eq) | (exact (va_ne (by omega)).trans (by assumption)) | (exact (va_ne (by omega)).trans va_eq) | (exact (va_ne (by omega)).trans ((va_ne (by omega)).trans (by assumption))) | (exact (va_ne (by omega)).trans ((va_ne (by omega)).trans ((va_ne (by omega)).trans (by assumption)))) | rfl | (exact Or.inl rfl) | (exact Or.inr rfl) | omega | (exact Nat.le_of_ble_eq_true rfl) | decide | (exact ⟨by decide, rfl, by decide⟩)) ?_
                        refine sq_need hn hz4 ha (fun z5 h405 hne5 hz5 hg5 hI5 hJ5 => ?_) (fun z5 w hbad he => ?_)
                        · refine b_163_56 _ _ _ ?_ ?_
                          · intro z56
                            first | (exact absurd z56 (by decide)) | (exact absurd (by decide) z56) | (exact absurd rfl z56) | (exact absurd z56 (of_nn (by omega))) | (exact absurd (of_np (by omega)) z56) | omega
                          · intro z56
                            refine b_163_59 _ _ _ ?_
                            refine b_163_64 _ _ _ ?_
                            exact ok z5 _ (hsp.trans hne5) h405 hz5 (hg4.trans hg5) (hr4.go hg5 (Nat.le_refl _)) ((hm3.go (hi' := (σ3.nx g L).n) hg5 (Nat.le_refl _) (Nat.le_refl _)).mono)
                        · have hbadF : ms_bad (ms_E g L (j + 1) false σ) w := by rw [hsp]; exact hbad
                          have he0 := hg4.er he
                          refine b_163_56 _ _ _ ?_ ?_
                          · intro z56
                            refine b_163_63 _ _ _ ?_
                            refine b_163_64 _ _ _ ?_
                            exact er _ w hbadF he0
                          · intro z56
                            first | (exact absurd z56 (by decide)) | (exact absurd (by decide) z56) | (exact absurd rfl z56) | (exact absurd z56 (of_nn (by omega))) | (exact absurd (of_np (by omega)) z56) | omega
                  · have hbadF : ms_bad (ms_E g L (j + 1) false σ) w := by rw [hsp]; exact hbad.bind (fun x σ' h => by rw [ms_need_odd h (by decide)]; exact rfl)
                    have q505 := he.1.1
                    have he0 := (hg1.trans hg2).er he
                    refine b_163_30 _ _ _ (by first | assumption | (exact mL_get (by decide)) | (rw [mL_len]; decide) | (simp only [mL_set]; exact mL_get (by decide)) | (simp only [mL_set, mL_len]; decide) | (exact va_eq) | (exact (va_ne (by omega)).trans (by assumption)) | (exact (va_ne (by omega)).trans va_eq) | (exact (va_ne (by omega)).trans ((va_ne (by omega)).trans (by assumption))) | (exact (va_ne (by omega)).trans ((va_ne (by omega)).trans ((va_ne (by omega)).trans (by assumption)))) | rfl | (exact Or.inl rfl) | (exact Or.inr rfl) | omega | (exact Nat.le_of_ble_eq_true rfl) | decide | (exact ⟨by decide, rfl, by decide⟩)) (by first | assumption | (exact mL_get (by decide)) | (rw [mL_len]; decide) | (simp only [mL_set]; exact mL_get (by decide)) | (simp only [mL_set, mL_len]; decide) | (exact va_eq) | (exact (va_ne (by omega)).trans (by assumption)) | (exact (va_ne (by omega)).trans va_eq) | (exact (va_ne (by omega)).trans ((va_ne (by omega)).trans (by assumption))) | (exact (va_ne (by omega)).trans ((va_ne (by omega)).trans ((va_ne (by omega)).trans (by assumption)))) | rfl | (exact Or.inl rfl) | (exact Or.inr rfl) | omega | (exact Nat.le_of_ble_eq_true rfl) | decide | (exact ⟨by decide, rfl, by decide⟩)) (by first | assumption | (exact mL_get (by decide)) | (rw [mL_len]; decide) | (simp only [mL_set]; exact mL_get (by decide)) | (simp only [mL_set, mL_len]; decide) | (exact va_eq) | (exact (va_ne (by omega)).trans (by assumption)) | (exact (va_ne (by omega)).trans va_eq) | (exact (va_ne (by omega)).trans ((va_ne (by omega)).trans (by assumption))) | (exact (va_ne (by omega)).trans ((va_ne (by omega)).trans ((va_ne (by omega)).trans (by assumption)))) | rfl | (exact Or.inl rfl) | (exact Or.inr rfl) | omega | (exact Nat.le_of_ble_eq_true rfl) | decide | (exact ⟨by decide, rfl, by decide⟩)) (by first | assumption | (exact mL_get (by decide)) | (rw [mL_len]; decide) | (simp only [mL_set]; exact mL_get (by decide)) | (simp only [mL_set, mL_len]; decide) | (exact va_eq) | (exact (va_ne (by omega)).trans (by assumption)) | (exact (va_ne (by omega)).trans va_eq) | (exact (va_ne (by omega)).trans ((va_ne (by omega)).trans (by assumption))) | (exact (va_ne (by omega)).trans ((va_ne (by omega)).trans ((va_ne (by omega)).trans (by assumption)))) | rfl | (exact Or.inl rfl) | (exact Or.inr rfl) | omega | (exact Nat.le_of_ble_eq_true rfl) | decide | (exact ⟨by decide, rfl, by decide⟩)) (by first | assumption | (exact mL_get (by decide)) | (rw [mL_len]; decide) | (simp only [mL_set]; exact mL_get (by decide)) | (simp only [mL_set, mL_len]; decide) | (exact va_eq) | (exact (va_ne (by omega)).trans (by assumption)) | (exact (va_ne (by omega)).trans va_eq) | (exact (va_ne (by omega)).trans ((va_ne (by omega)).trans (by assumption))) | (exact (va_ne (by omega)).trans ((va_ne (by omega)).trans ((va_ne (by omega)).trans (by assumption)))) | rfl | (exact Or.inl rfl) | (exact Or.inr rfl) | omega | (exact Nat.le_of_ble_eq_true rfl) | decide | (exact ⟨by decide, rfl, by decide⟩)) (by first | assumption | (exact mL_get (by decide)) | (rw [mL_len]; decide) | (simp only [mL_set]; exact mL_get (by decide)) | (simp only [mL_set, mL_len]; decide) | (exact va_eq) | (exact (va_ne (by omega)).trans (by assumption)) | (exact (va_ne (by omega)).trans va_eq) | (exact (va_ne (by omega)).trans ((va_ne (by omega)).trans (by assumption))) | (exact (va_ne (by omega)).trans ((va_ne (by omega)).trans ((va_ne (by omega)).trans (by assumption)))) | rfl | (exact Or.inl rfl) | (exact Or.inr rfl) | omega | (exact Nat.le_of_ble_eq_true rfl) | decide | (exact ⟨by decide, rfl, by decide⟩)) ?_ ?_
                    · intro z30
                      show mi_W _ _ _ _ _ (n, sl, (mr_x22 (z3.X 22 - 1) z3 s).f) _
                      have he0 := mr_x22_er (v := z3.X 22 - 1) he0
                      have q505 := he0.1.1
                      refine b_163_63 _ _ _ ?_
                      refine b_163_64 _ _ _ ?_
                      exact er _ w hbadF he0
                    · intro z30
                      first | (exact absurd z30 (by decide)) | (exact absurd (by decide) z30) | (exact absurd rfl z30) | (exact absurd z30 (of_nn (by omega))) | (exact absurd (of_np (by omega)) z30) | omega
                · intro z21
                  first | (exact absurd z21 (by decide)) | (exact absurd (by decide) z21) | (exact absurd rfl z21) | (exact absurd z21 (of_nn (by omega))) | (exact absurd (of_np (by omega)) z21) | omega
              · refine b_163_21 _ _ _ ?_ ?_
                · intro z21
                  first | (exact absurd z21 (by decide)) | (exact absurd (by decide) z21) | (exact absurd rfl z21) | (exact absurd z21 (of_nn (by omega))) | (exact absurd (of_np (by omega)) z21) | omega
                · intro z21
                  refine b_163_24 _ _ _ ?_
                  refine er z2 _ ?_ (hg1.er he)
                  rw [hsp, ms_E_odd h402, ms_eb_er]
                  exact rfl
          · exact absurd hk0 (by omega)
      · refine b_163_7 _ _ _ ?_ ?_
        · intro z7
          refine sq_dN hn hz (fun op hop => ?_) (fun z' ho he => er z' _ ?_ he)
          · refine sq_bN hn hz (fun j z1 hj hn8 hz1 h401 hg1 hA1 hV1 => ?_) (fun z' w hw he => er z' w ?_ he)
            · obtain rfl : j = k := by omega
              have hsp := ms_E_o (g := g) (L := L) (k := j) hp hop hn8
              rcases ms_op_V hop with (rfl | rfl | rfl | rfl | rfl) | (rfl | rfl | rfl | rfl) | (rfl | rfl | rfl)
              · skip
                refine b_163_303 (t5 := 364) _ _ _ (by decide +kernel) ?_
                exact sq_cN364 hn (by omega) (by omega) ih hz1 hg1 h401 hA1 (by decide) hsp ok er
              · skip
                refine b_163_303 (t5 := 401) _ _ _ (by decide +kernel) ?_
                exact sq_cN401 hn (by omega) (by omega) ih hz1 hg1 h401 hA1 (by decide) hsp ok er
              · skip
                refine b_163_303 (t5 := 461) _ _ _ (by decide +kernel) ?_
                exact sq_cN461 hn (by omega) (by omega) ih hz1 hg1 h401 hA1 (by decide) hsp ok er
              · skip
                refine b_163_303 (t5 := 484) _ _ _ (by decide +kernel) ?_
                exact sq_cN484 hn (by omega) (by omega) ih hz1 hg1 h401 hA1 (by decide) hsp ok er
              · skip
                refine b_163_303 (t5 := 507) _ _ _ (by decide +kernel) ?_
                exact sq_cN507 hn (by omega) (by omega) ih hz1 hg1 h401 hA1 (by decide) hsp ok er
              · skip
                refine b_163_303 (t5 := 424) _ _ _ (by decide +kernel) ?_
                exact sq_cN424 hn (by omega) (by omega) ih hz1 hg1 h401 hA1 (by decide) hsp ok er
              · skip
                refine b_163_303 (t5 := 424) _ _ _ (by decide +kernel) ?_
                exact sq_cN424 hn (by omega) (by omega) ih hz1 hg1 h401 hA1 (by decide) hsp ok er
              · skip
                refine b_163_303 (t5 := 424) _ _ _ (by decide +kernel) ?_
                exact sq_cN424 hn (by omega) (by omega) ih hz1 hg1 h401 hA1 (by decide) hsp ok er
              · skip
                refine b_163_303 (t5 := 424) _ _ _ (by decide +kernel) ?_
                exact sq_cN424 hn (by omega) (by omega) ih hz1 hg1 h401 hA1 (by decide) hsp ok er
              · skip
                refine b_163_303 (t5 := 558) _ _ _ (by decide +kernel) ?_
                exact sq_cN558 hn (by omega) (by omega) ih hz1 hg1 h401 hA1 (fun _ => hV1 (ms_op10 hop)) (by decide) hsp ok er
              · skip
                refine b_163_303 (t5 := 558) _ _ _ (by decide +kernel) ?_
                exact sq_cN558 hn (by omega) (by omega) ih hz1 hg1 h401 hA1 (fun h => absurd h (by decide)) (by decide) hsp ok er
              · skip
                refine b_163_303 (t5 := 558) _ _ _ (by decide +kernel) ?_
                exact sq_cN558 hn (by omega) (by omega) ih hz1 hg1 h401 hA1 (fun h => absurd h (by decide)) (by decide) hsp ok er
            · rcases hw with ⟨hw, _⟩ | ⟨j, hj, ⟨h8, hw⟩ | ⟨h8, h40, hw⟩⟩
              · exact absurd hw (by omega)
              · rw [ms_E_8 hp hop h8]
                exact hw.symm
              · rw [ms_E_o hp hop h8, hw]
                exact ms_bd_odd h40
          · rw [ms_E_n hp ho]
            exact rfl
        · intro z7
          first | (exact absurd z7 (by decide)) | (exact absurd (by decide) z7) | (exact absurd rfl z7) | (exact absurd z7 (of_nn (by omega))) | (exact absurd (of_np (by omega)) z7) | omega
    · skip
      show mi_W (e + 14) 167 0 (mi_en 4 [.ref 505]) [] (n, sl, z.f) Q
      have hk100 : k + 1 ≤ 100 := hz.2.2.2.2.2.1.2
      refine b_167_0 _ _ _ (by first | assumption | (exact mL_get (by decide)) | (rw [mL_len]; decide) | (simp only [mL_set]; exact mL_get (by decide)) | (simp only [mL_set, mL_len]; decide) | (exact va_eq) | (exact (va_ne (by omega)).trans (by assumption)) | (exact (va_ne (by omega)).trans va_eq) | (exact (va_ne (by omega)).trans ((va_ne (by omega)).trans (by assumption))) | (exact (va_ne (by omega)).trans ((va_ne (by omega)).trans ((va_ne (by omega)).trans (by assumption)))) | rfl | (exact Or.inl rfl) | (exact Or.inr rfl) | omega | (exact Nat.le_of_ble_eq_true rfl) | decide | (exact ⟨by decide, rfl, by decide⟩)) (by first | assumption | (exact mL_get (by decide)) | (rw [mL_len]; decide) | (simp only [mL_set]; exact mL_get (by decide)) | (simp only [mL_set, mL_len]; decide) | (exact va_eq) | (exact (va_ne (by omega)).trans (by assumption)) | (exact (va_ne (by omega)).trans va_eq) | (exact (va_ne (by omega)).trans ((va_ne (by omega)).trans (by assumption))) | (exact (va_ne (by omega)).trans ((va_ne (by omega)).trans ((va_ne (by omega)).trans (by assumption)))) | rfl | (exact Or.inl rfl) | (exact Or.inr rfl) | omega | (exact Nat.le_of_ble_eq_true rfl) | decide | (exact ⟨by decide, rfl, by decide⟩)) ?_
      refine sq_sign hn hz (by decide) (fun hp => ?_) (fun hp => ?_)
      · have hsp := ms_E_b (g := g) (L := L) (k := k) (b := true) hp
        refine b_167_7 _ _ _ ?_ ?_
        · intro z7
          first | (exact absurd z7 (by decide)) | (exact absurd (by decide) z7) | (exact absurd rfl z7) | (exact absurd z7 (of_nn (by omega))) | (exact absurd (of_np (by omega)) z7) | omega
        · intro z7
          refine b_167_10 _ _ _ (by first | assumption | (exact mL_get (by decide)) | (rw [mL_len]; decide) | (simp only [mL_set]; exact mL_get (by decide)) | (simp only [mL_set, mL_len]; decide) | (exact va_eq) | (exact (va_ne (by omega)).trans (by assumption)) | (exact (va_ne (by omega)).trans va_eq) | (exact (va_ne (by omega)).trans ((va_ne (by omega)).trans (by assumption))) | (exact (va_ne (by omega)).trans ((va_ne (by omega)).trans ((va_ne (by omega)).trans (by assumption)))) | rfl | (exact Or.inl rfl) | (exact Or.inr rfl) | omega | (exact Nat.le_of_ble_eq_true rfl) | decide | (exact ⟨by decide, rfl, by decide⟩)) (by first | assumption | (exact mL_get (by decide)) | (rw [mL_len]; decide) | (simp only [mL_set]; exact mL_get (by decide)) | (simp only [mL_set, mL_len]; decide) | (exact va_eq) | (exact (va_ne (by omega)).trans (by assumption)) | (exact (va_ne (by omega)).trans va_eq) | (exact (va_ne (by omega)).trans ((va_ne (by omega)).trans (by assumption))) | (exact (va_ne (by omega)).trans ((va_ne (by omega)).trans ((va_ne (by omega)).trans (by assumption)))) | rfl | (exact Or.inl rfl) | (exact Or.inr rfl) | omega | (exact Nat.le_of_ble_eq_true rfl) | decide | (exact ⟨by decide, rfl, by decide⟩)) ?_
          refine sq_open hn hz (fun j z1 hj hz1 hg1 hI1 hJ1 hY1 => ?_) (fun z1 hk0 he => ?_)
          · obtain rfl : j = k := by omega
            have q505 := hz1.1.1
            refine b_167_14 _ _ _ ?_ ?_
            · intro z14
              first | (exact absurd z14 (by decide)) | (exact absurd (by decide) z14) | (exact absurd rfl z14) | (exact absurd z14 (of_nn (by omega))) | (exact absurd (of_np (by omega)) z14) | omega
            · intro z14
              refine b_167_17 _ _ _ (by first | assumption | (exact mL_get (by decide)) | (rw [mL_len]; decide) | (simp only [mL_set]; exact mL_get (by decide)) | (simp only [mL_set, mL_len]; decide) | (exact va_eq) | (exact (va_ne (by omega)).trans (by assumption)) | (exact (va_ne (by omega)).trans va_eq) | (exact (va_ne (by omega)).trans ((va_ne (by omega)).trans (by assumption))) | (exact (va_ne (by omega)).trans ((va_ne (by omega)).trans ((va_ne (by omega)).trans (by assumption)))) | rfl | (exact Or.inl rfl) | (exact Or.inr rfl) | omega | (exact Nat.le_of_ble_eq_true rfl) | decide | (exact ⟨by decide, rfl, by decide⟩)) (by first | assumption | (exact mL_get (by decide)) | (rw [mL_len]; decide) | (simp only [mL_set]; exact mL_get (by decide)) | (simp only [mL_set, mL_len]; decide) | (exact va_eq) | (exact (va_ne (by omega)).trans (by assumption)) | (exact (va_ne (by omega)).trans va_eq) | (exact (va_ne (by omega)).trans ((va_ne (by omega)).trans (by assumption))) | (exact (va_ne (by omega)).trans ((va_ne (by omega)).trans ((va_ne (by omega)).trans (by assumption)))) | rfl | (exact Or.inl rfl) | (exact Or.inr rfl) | omega | (exact Nat.le_of_ble_eq_true rfl) | decide | (exact ⟨by decide, rfl, by decide⟩)) ?_
              refine sq_next hn hz1 (fun z2 h402 hz2 hg2 hI2 hJ2 => ?_) (fun z2 h402 he => ?_)
              · have q505 := hz2.1.1
                refine b_167_21 _ _ _ ?_ ?_
                · intro z21
                  refine b_167_26 _ _ _ (by first | assumption | (exact mL_get (by decide)) | (rw [mL_len]; decide) | (simp only [mL_set]; exact mL_get (by decide)) | (simp only [mL_set, mL_len]; decide) | (exact va_eq) | (exact (va_ne (by omega)).trans (by assumption)) | (exact (va_ne (by omega)).trans va_eq) | (exact (va_ne (by omega)).trans ((va_ne (by omega)).trans (by assumption))) | (exact (va_ne (by omega)).trans ((va_ne (by omega)).trans ((va_ne (by omega)).trans (by assumption)))) | rfl | (exact Or.inl rfl) | (exact Or.inr rfl) | omega | (exact Nat.le_of_ble_eq_true rfl) | decide | (exact ⟨by decide, rfl, by decide⟩)) (by first | assumption | (exact mL_get (by decide)) | (rw [mL_len]; decide) | (simp only [mL_set]; exact mL_get (by decide)) | (simp only [mL_set, mL_len]; decide) | (exact va_eq) | (exact (va_ne (by omega)).trans (by assumption)) | (exact (va_ne (by omega)).trans va_eq) | (exact (va_ne (by omega)).trans ((va_ne (by omega)).trans (by assumption))) | (exact (va_ne (by omega)).trans ((va_ne (by omega)).trans ((va_ne (by omega)).trans (by assumption)))) | rfl | (exact Or.inl rfl) | (exact Or.inr rfl) | omega | (exact Nat.le_of_ble_eq_true rfl) | decide | (exact ⟨by decide, rfl, by decide⟩)) ?_
                  refine ih true _ _ _ _ (by omega) hz2 (fun z3 σ3 hok3 h403 hz3 hg3 hr3 hm3 => ?_) (fun z3 w hbad he => ?_)
                  · have q505 := hz3.1.1
                    rw [hok3, ms_eb_ok] at hsp
                    have hn1 : (σ.nx g L).n = σ.n := rfl
                    have hn80 := hz.2.2.2.2.1.2
                    refine b_167_30 _ _ _ (by first | assumption | (exact mL_get (by decide)) | (rw [mL_len]; decide) | (simp only [mL_set]; exact mL_get (by decide)) | (simp only [mL_set, mL_len]; decide) | (exact va_eq) | (exact (va_ne (by omega)).trans (by assumption)) | (exact (va_ne (by omega)).trans va_eq) | (exact (va_ne (by omega)).trans ((va_ne (by omega)).trans (by assumption))) | (exact (va_ne (by omega)).trans ((va_ne (by omega)).trans ((va_ne (by omega)).trans (by assumption)))) | rfl | (exact Or.inl rfl) | (exact Or.inr rfl) | omega | (exact Nat.le_of_ble_eq_true rfl) | decide | (exact ⟨by decide, rfl, by decide⟩)) (by first | assumption | (exact mL_get (by decide)) | (rw [mL_len]; decide) | (simp only [mL_set]; exact mL_get (by decide)) | (simp only [mL_set, mL_len]; decide) | (exact va_eq) | (exact (va_ne (by omega)).trans (by assumption)) | (exact (va_ne (by omega)).trans va_eq) | (exact (va_ne (by omega)).trans ((va_ne (by omega)).trans (by assumption))) | (exact (va_ne (by omega)).trans ((va_ne (by omega)).trans ((va_ne (by omega)).trans (by assumption)))) | rfl | (exact Or.inl rfl) | (exact Or.inr rfl) | omega | (exact Nat.le_of_ble_eq_true rfl) | decide | (exact ⟨by decide, rfl, by decide⟩)) (by first | assumption | (exact mL_get (by decide)) | (rw [mL_len]; decide) | (simp only [mL_set]; exact mL_get (by decide)) | (simp only [mL_set, mL_len]; decide) | (exact va_eq) | (exact (va_ne (by omega)).trans (by assumption)) | (exact (va_ne (by omega)).trans va_eq) | (exact (va_ne (by omega)).trans ((va_ne (by omega)).trans (by assumption))) | (exact (va_ne (by omega)).trans ((va_ne (by omega)).trans ((va_ne (by omega)).trans (by assumption)))) | rfl | (exact Or.inl rfl) | (exact Or.inr rfl) | omega | (exact Nat.le_of_ble_eq_true rfl) | decide | (exact ⟨by decide, rfl, by decide⟩)) (by first | assumption | (exact mL_get (by decide)) | (rw [mL_len]; decide) | (simp only [mL_set]; exact mL_get (by decide)) | (simp only [mL_set, mL_len]; decide) | (exact va_eq) | (exact (va_ne (by omega)).trans (by assumption)) | (exact (va_ne (by omega)).trans va_eq) | (exact (va_ne (by omega)).trans ((va_ne (by omega)).trans (by assumption))) | (exact (va_ne (by omega)).trans ((va_ne (by omega)).trans ((va_ne (by omega)).trans (by assumption)))) | rfl | (exact Or.inl rfl) | (exact Or.inr rfl) | omega | (exact Nat.le_of_ble_eq_true rfl) | decide | (exact ⟨by decide, rfl, by decide⟩)) (by first | assumption | (exact mL_get (by decide)) | (rw [mL_len]; decide) | (simp only [mL_set]; exact mL_get (by decide)) | (simp only [mL_set, mL_len]; decide) | (exact va_eq) | (exact (va_ne (by omega)).trans (by assumption)) | (exact (va_ne (by omega)).trans va_eq) | (exact (va_ne (by omega)).trans ((va_ne (by omega)).trans (by assumption))) | (exact (va_ne (by omega)).trans ((va_ne (by omega)).trans ((va_ne (by omega)).trans (by assumption)))) | rfl | (exact Or.inl rfl) | (exact Or.inr rfl) | omega | (exact Nat.le_of_ble_eq_true rfl) | decide | (exact ⟨by decide, rfl, by decide⟩)) (by first | assumption | (exact mL_get (by decide)) | (rw [mL_len]; decide) | (simp only [mL_set]; exact mL_get (by decide)) | (simp only [mL_set, mL_len]; decide) | (exact va_eq) | (exact (va_ne (by omega)).trans (by assumption)) | (exact (va_ne (by omega)).trans va_eq) | (exact (va_ne (by omega)).trans ((va_ne (by omega)).trans (by assumption))) | (exact (va_ne (by omega)).trans ((va_ne (by omega)).trans ((va_ne (by omega)).trans (by assumption)))) | rfl | (exact Or.inl rfl) | (exact Or.inr rfl) | omega | (exact Nat.le_of_ble_eq_true rfl) | decide | (exact ⟨by decide, rfl, by decide⟩)) ?_ ?_
                    · intro z30
                      first | (exact absurd z30 (by decide)) | (exact absurd (by decide) z30) | (exact absurd rfl z30) | (exact absurd z30 (of_nn (by omega))) | (exact absurd (of_np (by omega)) z30) | omega
                    · intro z30
                      show mi_W _ _ _ _ _ (n, sl, (mr_x22 (z3.X 22 - 1) z3 s).f) _
                      have h22 : z3.X 22 = _ := hz3.2.2.2.2.2.1.1
                      have hz4 := mr_x22_st (v := z3.X 22 - 1) (j := j + 1) hz3 (by rw [h22, show (1 : Int32) = Int32.ofNat 1 from rfl, of_sub' (by omega), show 100 - j - 1 = 100 - (j + 1) by omega]) (by omega)
                      have hg4 := (((hg1.trans hg2).trans hg3)).x22 (v := z3.X 22 - 1) (s := s)
                      have hr4 : mr_rg (σ.nx g L).n σ3.n (mr_x22 (z3.X 22 - 1) z3 s) σ3 := hr3.to (fun _ _ _ => mr_x22_kp) (fun _ _ _ => rfl)
                      generalize hw4 : mr_x22 (z3.X 22 - 1) z3 s = z4 at *
                      have q505 := hz4.1.1
                      refine b_167_45 _ _ _ (by first | assumption | (exact mL_get (by decide)) | (rw [mL_len]; decide) | (simp only [mL_set]; exact mL_get (by decide)) | (simp only [mL_set, mL_len]; decide) | (exact va_eq) | (exact (va_ne (by omega)).trans (by assumption)) | (exact (va_ne (by omega)).trans va_eq) | (exact (va_ne (by omega)).trans ((va_ne (by omega)).trans (by assumption))) | (exact (va_ne (by omega)).trans ((va_ne (by omega)).trans ((va_ne (by omega)).trans (by assumption)))) | rfl | (exact Or.inl rfl) | (exact Or.inr rfl) | omega | (exact Nat.le_of_ble_eq_true rfl) | decide | (exact ⟨by decide, rfl, by decide⟩)) (by first | assumption | (exact mL_get (by decide)) | (rw [mL_len]; decide) | (simp only [mL_set]; exact mL_get (by decide)) | (simp only [mL_set, mL_len]; decide) | (exact va_eq) | (exact (va_ne (by omega)).trans (by assumption)) | (exact (va_ne (by omega)).trans va_eq) | (exact (va_ne (by omega)).trans ((va_ne (by omega)).trans (by assumption))) | (exact (va_ne (by omega)).trans ((va_ne (by omega)).trans ((va_ne (by omega)).trans (by assumption)))) | rfl | (exact Or.inl rfl) | (exact Or.inr rfl) | omega | (exact Nat.le_of_ble_eq_true rfl) | decide | (exact ⟨by decide, rfl, by decide⟩)) ?_
                      refine sq_sign hn hz4 (by decide) (fun hs => ?_) (fun hs => ?_)
                      · have ha : (1 : Int32) = 1 ∧ σ3.t.k = ms_kc 41 ∨ (1 : Int32) = 0 ∧ ¬ σ3.t.k = ms_kc 41 := Or.inl ⟨rfl, hs⟩
                        refine b_167_53 _ _ _ (by first | assumption | (exact mL_get (by decide)) | (rw [mL_len]; decide) | (simp only [mL_set]; exact mL_get (by decide)) | (simp only [mL_set, mL_len]; decide) | (exact va_eq) | (exact (va_ne (by omega)).trans (by assumption)) | (exact (va_ne (by omega)).trans va_eq) | (exact (va_ne (by omega)).trans ((va_ne (by omega)).trans (by assumption))) | (exact (va_ne (by omega)).trans ((va_ne (by omega)).trans ((va_ne (by omega)).trans (by assumption)))) | rfl | (exact Or.inl rfl) | (exact Or.inr rfl) | omega | (exact Nat.le_of_ble_eq_true rfl) | decide | (exact ⟨by decide, rfl, by decide⟩)) (by first | assumption | (exact mL_get (by decide)) | (rw [mL_len]; decide) | (simp only [mL_set]; exact mL_get (by decide)) | (simp only [mL_set, mL_len]; decide) | (exact va_eq) | (exact (va_ne (by omega)).trans (by assumption)) | (exact (va_ne (by omega)).trans va_eq) | (exact (va_ne (by omega)).trans ((va_ne (by omega)).trans (by assumption))) | (exact (va_ne (by omega)).trans ((va_ne (by omega)).trans ((va_ne (by omega)).trans (by assumption)))) | rfl | (exact Or.inl rfl) | (exact Or.inr rfl) | omega | (exact Nat.le_of_ble_eq_true rfl) | decide | (exact ⟨by decide, rfl, by decide⟩)) ?_
                        refine sq_need hn hz4 ha (fun z5 h405 hne5 hz5 hg5 hI5 hJ5 => ?_) (fun z5 w hbad he => ?_)
                        · refine b_167_56 _ _ _ ?_ ?_
                          · intro z56
                            first | (exact absurd z56 (by decide)) | (exact absurd (by decide) z56) | (exact absurd rfl z56) | (exact absurd z56 (of_nn (by omega))) | (exact absurd (of_np (by omega)) z56) | omega
                          · intro z56
                            refine b_167_59 _ _ _ ?_
                            refine b_167_64 _ _ _ ?_
                            exact ok z5 _ (hsp.trans hne5) h405 hz5 (hg4.trans hg5) (hr4.go hg5 (Nat.le_refl _)) ((hm3.go (hi' := (σ3.nx g L).n) hg5 (Nat.le_refl _) (Nat.le_refl _)).mono)
                        · have hbadF : ms_bad (ms_E g L (j + 1) true σ) w := by rw [hsp]; exact hbad
                          have he0 := hg4.er he
                          refine b_167_56 _ _ _ ?_ ?_
                          · intro z56
                            refine b_167_63 _ _ _ ?_
                            refine b_167_64 _ _ _ ?_
                            exact er _ w hbadF he0
                          · intro z56
                            first | (exact absurd z56 (by decide)) | (exact absurd (by decide) z56) | (exact absurd rfl z56) | (exact absurd z56 (of_nn (by omega))) | (exact absurd (of_np (by omega)) z56) | omega
                      · have ha : (0 : Int32) = 1 ∧ σ3.t.k = ms_kc 41 ∨ (0 : Int32) = 0 ∧ ¬ σ3.t.k = ms_kc 41 := Or.inr ⟨rfl, hs⟩
                        refine b_167_53 _ _ _ (by first | assumption | (exact mL_get (by decide)) | (rw [mL_len]; decide) | (simp only [mL_set]; exact mL_get (by decide)) | (simp only [mL_set, mL_len]; decide) | (exact va_eq) | (exact (va_ne (by omega)).trans (by assumption)) | (exact (va_ne (by omega)).trans va_eq) | (exact (va_ne (by omega)).trans ((va_ne (by omega)).trans (by assumption))) | (exact (va_ne (by omega)).trans ((va_ne (by omega)).trans ((va_ne (by omega)).trans (by assumption)))) | rfl | (exact Or.inl rfl) | (exact Or.inr rfl) | omega | (exact Nat.le_of_ble_eq_true rfl) | decide | (exact ⟨by decide, rfl, by decide⟩)) (by first | assumption | (exact mL_get (by decide)) | (rw [mL_len]; decide) | (simp only [mL_set]; exact mL_get (by decide)) | (simp only [mL_set, mL_len]; decide) | (exact va_eq) | (exact (va_ne (by omega)).trans (by assumption)) | (exact (va_ne (by omega)).trans va_eq) | (exact (va_ne (by omega)).trans ((va_ne (by omega)).trans (by assumption))) | (exact (va_ne (by omega)).trans ((va_ne (by omega)).trans ((va_ne (by omega)).trans (by assumption)))) | rfl | (exact Or.inl rfl) | (exact Or.inr rfl) | omega | (exact Nat.le_of_ble_eq_true rfl) | decide | (exact ⟨by decide, rfl, by decide⟩)) ?_
                        refine sq_need hn hz4 ha (fun z5 h405 hne5 hz5 hg5 hI5 hJ5 => ?_) (fun z5 w hbad he => ?_)
                        · refine b_167_56 _ _ _ ?_ ?_
                          · intro z56
                            first | (exact absurd z56 (by decide)) | (exact absurd (by decide) z56) | (exact absurd rfl z56) | (exact absurd z56 (of_nn (by omega))) | (exact absurd (of_np (by omega)) z56) | omega
                          · intro z56
                            refine b_167_59 _ _ _ ?_
                            refine b_167_64 _ _ _ ?_
                            exact ok z5 _ (hsp.trans hne5) h405 hz5 (hg4.trans hg5) (hr4.go hg5 (Nat.le_refl _)) ((hm3.go (hi' := (σ3.nx g L).n) hg5 (Nat.le_refl _) (Nat.le_refl _)).mono)
                        · have hbadF : ms_bad (ms_E g L (j + 1) true σ) w := by rw [hsp]; exact hbad
                          have he0 := hg4.er he
                          refine b_167_56 _ _ _ ?_ ?_
                          · intro z56
                            refine b_167_63 _ _ _ ?_
                            refine b_167_64 _ _ _ ?_
                            exact er _ w hbadF he0
                          · intro z56
                            first | (exact absurd z56 (by decide)) | (exact absurd (by decide) z56) | (exact absurd rfl z56) | (exact absurd z56 (of_nn (by omega))) | (exact absurd (of_np (by omega)) z56) | omega
                  · have hbadF : ms_bad (ms_E g L (j + 1) true σ) w := by rw [hsp]; exact hbad.bind (fun x σ' h => by rw [ms_need_odd h (by decide)]; exact rfl)
                    have q505 := he.1.1
                    have he0 := (hg1.trans hg2).er he
                    refine b_167_30 _ _ _ (by first | assumption | (exact mL_get (by decide)) | (rw [mL_len]; decide) | (simp only [mL_set]; exact mL_get (by decide)) | (simp only [mL_set, mL_len]; decide) | (exact va_eq) | (exact (va_ne (by omega)).trans (by assumption)) | (exact (va_ne (by omega)).trans va_eq) | (exact (va_ne (by omega)).trans ((va_ne (by omega)).trans (by assumption))) | (exact (va_ne (by omega)).trans ((va_ne (by omega)).trans ((va_ne (by omega)).trans (by assumption)))) | rfl | (exact Or.inl rfl) | (exact Or.inr rfl) | omega | (exact Nat.le_of_ble_eq_true rfl) | decide | (exact ⟨by decide, rfl, by decide⟩)) (by first | assumption | (exact mL_get (by decide)) | (rw [mL_len]; decide) | (simp only [mL_set]; exact mL_get (by decide)) | (simp only [mL_set, mL_len]; decide) | (exact va_eq) | (exact (va_ne (by omega)).trans (by assumption)) | (exact (va_ne (by omega)).trans va_eq) | (exact (va_ne (by omega)).trans ((va_ne (by omega)).trans (by assumption))) | (exact (va_ne (by omega)).trans ((va_ne (by omega)).trans ((va_ne (by omega)).trans (by assumption)))) | rfl | (exact Or.inl rfl) | (exact Or.inr rfl) | omega | (exact Nat.le_of_ble_eq_true rfl) | decide | (exact ⟨by decide, rfl, by decide⟩)) (by first | assumption | (exact mL_get (by decide)) | (rw [mL_len]; decide) | (simp only [mL_set]; exact mL_get (by decide)) | (simp only [mL_set, mL_len]; decide) | (exact va_eq) | (exact (va_ne (by omega)).trans (by assumption)) | (exact (va_ne (by omega)).trans va_eq) | (exact (va_ne (by omega)).trans ((va_ne (by omega)).trans (by assumption))) | (exact (va_ne (by omega)).trans ((va_ne (by omega)).trans ((va_ne (by omega)).trans (by assumption)))) | rfl | (exact Or.inl rfl) | (exact Or.inr rfl) | omega | (exact Nat.le_of_ble_eq_true rfl) | decide | (exact ⟨by decide, rfl, by decide⟩)) (by first | assumption | (exact mL_get (by decide)) | (rw [mL_len]; decide) | (simp only [mL_set]; exact mL_get (by decide)) | (simp only [mL_set, mL_len]; decide) | (exact va_eq) | (exact (va_ne (by omega)).trans (by assumption)) | (exact (va_ne (by omega)).trans va_eq) | (exact (va_ne (by omega)).trans ((va_ne (by omega)).trans (by assumption))) | (exact (va_ne (by omega)).trans ((va_ne (by omega)).trans ((va_ne (by omega)).trans (by assumption)))) | rfl | (exact Or.inl rfl) | (exact Or.inr rfl) | omega | (exact Nat.le_of_ble_eq_true rfl) | decide | (exact ⟨by decide, rfl, by decide⟩)) (by first | assumption | (exact mL_get (by decide)) | (rw [mL_len]; decide) | (simp only [mL_set]; exact mL_get (by decide)) | (simp only [mL_set, mL_len]; decide) | (exact va_eq) | (exact (va_ne (by omega)).trans (by assumption)) | (exact (va_ne (by omega)).trans va_eq) | (exact (va_ne (by omega)).trans ((va_ne (by omega)).trans (by assumption))) | (exact (va_ne (by omega)).trans ((va_ne (by omega)).trans ((va_ne (by omega)).trans (by assumption)))) | rfl | (exact Or.inl rfl) | (exact Or.inr rfl) | omega | (exact Nat.le_of_ble_eq_true rfl) | decide | (exact ⟨by decide, rfl, by decide⟩)) (by first | assumption | (exact mL_get (by decide)) | (rw [mL_len]; decide) | (simp only [mL_set]; exact mL_get (by decide)) | (simp only [mL_set, mL_len]; decide) | (exact va_eq) | (exact (va_ne (by omega)).trans (by assumption)) | (exact (va_ne (by omega)).trans va_eq) | (exact (va_ne (by omega)).trans ((va_ne (by omega)).trans (by assumption))) | (exact (va_ne (by omega)).trans ((va_ne (by omega)).trans ((va_ne (by omega)).trans (by assumption)))) | rfl | (exact Or.inl rfl) | (exact Or.inr rfl) | omega | (exact Nat.le_of_ble_eq_true rfl) | decide | (exact ⟨by decide, rfl, by decide⟩)) ?_ ?_
                    · intro z30
                      show mi_W _ _ _ _ _ (n, sl, (mr_x22 (z3.X 22 - 1) z3 s).f) _
                      have he0 := mr_x22_er (v := z3.X 22 - 1) he0
                      have q505 := he0.1.1
                      refine b_167_63 _ _ _ ?_
                      refine b_167_64 _ _ _ ?_
                      exact er _ w hbadF he0
                    · intro z30
                      first | (exact absurd z30 (by decide)) | (exact absurd (by decide) z30) | (exact absurd rfl z30) | (exact absurd z30 (of_nn (by omega))) | (exact absurd (of_np (by omega)) z30) | omega
                · intro z21
                  first | (exact absurd z21 (by decide)) | (exact absurd (by decide) z21) | (exact absurd rfl z21) | (exact absurd z21 (of_nn (by omega))) | (exact absurd (of_np (by omega)) z21) | omega
              · refine b_167_21 _ _ _ ?_ ?_
                · intro z21
                  first | (exact absurd z21 (by decide)) | (exact absurd (by decide) z21) | (exact absurd rfl z21) | (exact absurd z21 (of_nn (by omega))) | (exact absurd (of_np (by omega)) z21) | omega
                · intro z21
                  refine b_167_24 _ _ _ ?_
                  refine er z2 _ ?_ (hg1.er he)
                  rw [hsp, ms_E_odd h402, ms_eb_er]
                  exact rfl
          · exact absurd hk0 (by omega)
      · refine b_167_7 _ _ _ ?_ ?_
        · intro z7
          refine sq_dO hn hz (fun op hop => ?_) (fun z' ho he => er z' _ ?_ he)
          · refine sq_bO hn hz (fun j z1 hj hn8 hz1 h401 hg1 hA1 => ?_) (fun z' w hw he => er z' w ?_ he)
            · obtain rfl : j = k := by omega
              have hsp := ms_E_o (g := g) (L := L) (k := j) hp hop hn8
              rcases ms_op_O hop with (rfl | rfl | rfl | rfl) | (rfl | rfl | rfl | rfl | rfl) | (rfl | rfl)
              · skip
                refine b_167_277 (t5 := 316) _ _ _ (by decide +kernel) ?_
                exact sq_cO316 hn (by omega) (by omega) ih hz1 hg1 h401 hA1 (by decide) hsp ok er
              · skip
                refine b_167_277 (t5 := 316) _ _ _ (by decide +kernel) ?_
                exact sq_cO316 hn (by omega) (by omega) ih hz1 hg1 h401 hA1 (by decide) hsp ok er
              · skip
                refine b_167_277 (t5 := 353) _ _ _ (by decide +kernel) ?_
                exact sq_cO353 hn (by omega) (by omega) ih hz1 hg1 h401 hA1 (by decide) hsp ok er
              · skip
                refine b_167_277 (t5 := 376) _ _ _ (by decide +kernel) ?_
                exact sq_cO376 hn (by omega) (by omega) ih hz1 hg1 h401 hA1 (by decide) hsp ok er
              · skip
                refine b_167_277 (t5 := 402) _ _ _ (by decide +kernel) ?_
                exact sq_cO402 hn (by omega) (by omega) ih hz1 hg1 h401 hA1 (by decide) hsp ok er
              · skip
                refine b_167_277 (t5 := 402) _ _ _ (by decide +kernel) ?_
                exact sq_cO402 hn (by omega) (by omega) ih hz1 hg1 h401 hA1 (by decide) hsp ok er
              · skip
                refine b_167_277 (t5 := 402) _ _ _ (by decide +kernel) ?_
                exact sq_cO402 hn (by omega) (by omega) ih hz1 hg1 h401 hA1 (by decide) hsp ok er
              · skip
                refine b_167_277 (t5 := 402) _ _ _ (by decide +kernel) ?_
                exact sq_cO402 hn (by omega) (by omega) ih hz1 hg1 h401 hA1 (by decide) hsp ok er
              · skip
                refine b_167_277 (t5 := 402) _ _ _ (by decide +kernel) ?_
                exact sq_cO402 hn (by omega) (by omega) ih hz1 hg1 h401 hA1 (by decide) hsp ok er
              · skip
                refine b_167_277 (t5 := 399) _ _ _ (by decide +kernel) ?_
                exact sq_cO399 hn (by omega) (by omega) ih hz1 hg1 h401 hA1 (by decide) hsp ok er
              · skip
                refine b_167_277 (t5 := 399) _ _ _ (by decide +kernel) ?_
                exact sq_cO399 hn (by omega) (by omega) ih hz1 hg1 h401 hA1 (by decide) hsp ok er
            · rcases hw with ⟨hw, _⟩ | ⟨j, hj, ⟨h8, hw⟩ | ⟨h8, h40, hw⟩⟩
              · exact absurd hw (by omega)
              · rw [ms_E_8 hp hop h8]
                exact hw.symm
              · rw [ms_E_o hp hop h8, hw]
                exact ms_bd_odd h40
          · rw [ms_E_n hp ho]
            exact rfl
        · intro z7
          first | (exact absurd z7 (by decide)) | (exact absurd (by decide) z7) | (exact absurd rfl z7) | (exact absurd z7 (of_nn (by omega))) | (exact absurd (of_np (by omega)) z7) | omega
end
