/-! the second object's reading: contracts -/
section
variable {d e n sl j k op : Nat} {z z0 z1 z2 : mr_Z} {σ σ0 σ1 σ2 : ms_S} {s : Value} {Q : (Option Value ⊕ Nat) → mi_H → Prop} {g : Nat → Int32} {L : Nat}
theorem ms_Cr_s : ms_C g L (j + 1) σ = if σ.t.k = ms_kc 40 then ms_eb (ms_C g L j (σ.nx g L)) (fun _ σ => ms_need g L (ms_kc 41) σ) else match ms_oc σ.t.k with
    | none => .error σ.t.a
    | some op => if σ.n = 800 then .error σ.t.a else ms_pt g L (ms_E g L j) (ms_C g L j) op σ.n (σ.add.nx g L) := rfl
theorem ms_pt_odd (h : σ.t.k = 40) {m : Nat} (hop : op = 1 ∨ op = 3 ∨ op = 4 ∨ op = 5 ∨ op = 6) : ms_pt g L (ms_E g L k) (ms_C g L k) op m σ = .error σ.t.a := by
  rcases hop with rfl | rfl | rfl | rfl | rfl
  · show ms_eb (ms_pa g L σ) _ = _
    rw [ms_pa_odd h, ms_eb_er]
  · show ms_eb (ms_E g L k true σ) _ = _
    rw [ms_E_odd h, ms_eb_er]
  · show ms_eb (ms_need g L (ms_kc 51) σ) _ = _
    rw [ms_need_odd h (by decide), ms_eb_er]
  · show ms_eb (ms_va g L σ) _ = _
    rw [ms_va_odd h, ms_eb_er]
  · show ms_eb (ms_E g L k true σ) _ = _
    rw [ms_E_odd h, ms_eb_er]
theorem ms_pt_bad (h : σ.t.k = 40) {m : Nat} (hop : op = 0 ∨ op = 1 ∨ op = 3 ∨ op = 4 ∨ op = 5 ∨ op = 6) : ms_bad (ms_pt g L (ms_E g L k) (ms_C g L k) op m σ) σ.t.a := by
  rcases hop with rfl | hop
  · exact ⟨h, rfl⟩
  · rw [ms_pt_odd h hop]
    exact rfl
/-- which contract it is -/
theorem sq_dC {o2 o3 o4 : Option Value} (hn : 575 ≤ n) (hz : mr_st n s g L z σ k) (K : ∀ op, ms_oc σ.t.k = some op → (op = 0 ∨ op = 1 ∨ op = 3 ∨ op = 4 ∨ op = 5 ∨ op = 6) → mi_W (d + 6) 152 161 [some (.ref 505), some (.int (Int32.ofNat op)), o3, o4] [] (n, sl, z.f) Q) (K0 : ∀ z', ms_oc σ.t.k = none → mr_er n s z z' σ.t.a → Q (.inl (some (.int (-1)))) (n, sl, z'.f)) : mi_W (d + 6) 152 65 [some (.ref 505), o2, o3, o4] [] (n, sl, z.f) Q := by
  have q505 := hz.1.1
  have h9 := hz.2.2.1.2.2.2.2.1
  refine b_152_65 _ _ _ (by first | assumption | (exact mL_get (by decide)) | (rw [mL_len]; decide) | (simp only [mL_set]; exact mL_get (by decide)) | (simp only [mL_set, mL_len]; decide) | (exact va_eq) | (exact (va_ne (by omega)).trans (by assumption)) | (exact (va_ne (by omega)).trans va_eq) | (exact (va_ne (by omega)).trans ((va_ne (by omega)).trans (by assumption))) | (exact (va_ne (by omega)).trans ((va_ne (by omega)).trans ((va_ne (by omega)).trans (by assumption)))) | rfl | (exact Or.inl rfl) | (exact Or.inr rfl) | omega | (exact Nat.le_of_ble_eq_true rfl) | decide | (exact ⟨by decide, rfl, by decide⟩)) (by first | assumption | (exact mL_get (by decide)) | (rw [mL_len]; decide) | (simp only [mL_set]; exact mL_get (by decide)) | (simp only [mL_set, mL_len]; decide) | (exact va_eq) | (exact (va_ne (by omega)).trans (by assumption)) | (exact (va_ne (by omega)).trans va_eq) | (exact (va_ne (by omega)).trans ((va_ne (by omega)).trans (by assumption))) | (exact (va_ne (by omega)).trans ((va_ne (by omega)).trans ((va_ne (by omega)).trans (by assumption)))) | rfl | (exact Or.inl rfl) | (exact Or.inr rfl) | omega | (exact Nat.le_of_ble_eq_true rfl) | decide | (exact ⟨by decide, rfl, by decide⟩)) ?_
  refine sq_key hn hz (by decide) (fun k0 => ?_) (fun k0 => ?_)
  · refine b_152_71 _ _ _ ?_ ?_
    · intro z71
      first | (exact absurd z71 (by decide)) | (exact absurd (by decide) z71) | (exact absurd rfl z71) | (exact absurd z71 (of_nn (by omega))) | (exact absurd (of_np (by omega)) z71) | omega
    · intro z71
      refine b_152_74 _ _ _ ?_
      refine b_152_145 _ _ _ ?_ ?_
      · intro z145
        exact K 0 (by unfold ms_oc; rw [if_pos k0]) (by decide)
      · intro z145
        first | (exact absurd z145 (by decide)) | (exact absurd (by decide) z145) | (exact absurd rfl z145) | (exact absurd z145 (of_nn (by omega))) | (exact absurd (of_np (by omega)) z145) | omega
  · refine b_152_71 _ _ _ ?_ ?_
    · intro z71
      refine b_152_78 _ _ _ (by first | assumption | (exact mL_get (by decide)) | (rw [mL_len]; decide) | (simp only [mL_set]; exact mL_get (by decide)) | (simp only [mL_set, mL_len]; decide) | (exact va_eq) | (exact (va_ne (by omega)).trans (by assumption)) | (exact (va_ne (by omega)).trans va_eq) | (exact (va_ne (by omega)).trans ((va_ne (by omega)).trans (by assumption))) | (exact (va_ne (by omega)).trans ((va_ne (by omega)).trans ((va_ne (by omega)).trans (by assumption)))) | rfl | (exact Or.inl rfl) | (exact Or.inr rfl) | omega | (exact Nat.le_of_ble_eq_true rfl) | decide | (exact ⟨by decide, rfl, by decide⟩)) (by first | assumption | (exact mL_get (by decide)) | (rw [mL_len]; decide) | (simp only [mL_set]; exact mL_get (by decide)) | (simp only [mL_set, mL_len]; decide) | (exact va_eq) | (exact (va_ne (by omega)).trans (by assumption)) | (exact (va_ne (by omega)).trans va_eq) | (exact (va_ne (by omega)).trans ((va_ne (by omega)).trans (by assumption))) | (exact (va_ne (by omega)).trans ((va_ne (by omega)).trans ((va_ne (by omega)).trans (by assumption)))) | rfl | (exact Or.inl rfl) | (exact Or.inr rfl) | omega | (exact Nat.le_of_ble_eq_true rfl) | decide | (exact ⟨by decide, rfl, by decide⟩)) ?_
      refine sq_key hn hz (by decide) (fun k1 => ?_) (fun k1 => ?_)
      · refine b_152_84 _ _ _ ?_ ?_
        · intro z84
          first | (exact absurd z84 (by decide)) | (exact absurd (by decide) z84) | (exact absurd rfl z84) | (exact absurd z84 (of_nn (by omega))) | (exact absurd (of_np (by omega)) z84) | omega
        · intro z84
          refine b_152_87 _ _ _ ?_
          refine b_152_145 _ _ _ ?_ ?_
          · intro z145
            exact K 1 (by unfold ms_oc; rw [if_neg k0, if_pos k1]) (by decide)
          · intro z145
            first | (exact absurd z145 (by decide)) | (exact absurd (by decide) z145) | (exact absurd rfl z145) | (exact absurd z145 (of_nn (by omega))) | (exact absurd (of_np (by omega)) z145) | omega
      · refine b_152_84 _ _ _ ?_ ?_
        · intro z84
          refine b_152_91 _ _ _ (by first | assumption | (exact mL_get (by decide)) | (rw [mL_len]; decide) | (simp only [mL_set]; exact mL_get (by decide)) | (simp only [mL_set, mL_len]; decide) | (exact va_eq) | (exact (va_ne (by omega)).trans (by assumption)) | (exact (va_ne (by omega)).trans va_eq) | (exact (va_ne (by omega)).trans ((va_ne (by omega)).trans (by assumption))) | (exact (va_ne (by omega)).trans ((va_ne (by omega)).trans ((va_ne (by omega)).trans (by assumption)))) | rfl | (exact Or.inl rfl) | (exact Or.inr rfl) | omega | (exact Nat.le_of_ble_eq_true rfl) | decide | (exact ⟨by decide, rfl, by decide⟩)) (by first | assumption | (exact mL_get (by decide)) | (rw [mL_len]; decide) | (simp only [mL_set]; exact mL_get (by decide)) | (simp only [mL_set, mL_len]; decide) | (exact va_eq) | (exact (va_ne (by omega)).trans (by assumption)) | (exact (va_ne (by omega)).trans va_eq) | (exact (va_ne (by omega)).trans ((va_ne (by omega)).trans (by assumption))) | (exact (va_ne (by omega)).trans ((va_ne (by omega)).trans ((va_ne (by omega)).trans (by assumption)))) | rfl | (exact Or.inl rfl) | (exact Or.inr rfl) | omega | (exact Nat.le_of_ble_eq_true rfl) | decide | (exact ⟨by decide, rfl, by decide⟩)) ?_
          refine sq_key hn hz (by decide) (fun k3 => ?_) (fun k3 => ?_)
          · refine b_152_97 _ _ _ ?_ ?_
            · intro z97
              first | (exact absurd z97 (by decide)) | (exact absurd (by decide) z97) | (exact absurd rfl z97) | (exact absurd z97 (of_nn (by omega))) | (exact absurd (of_np (by omega)) z97) | omega
            · intro z97
              refine b_152_100 _ _ _ ?_
              refine b_152_145 _ _ _ ?_ ?_
              · intro z145
                exact K 3 (by unfold ms_oc; rw [if_neg k0, if_neg k1, if_pos k3]) (by decide)
              · intro z145
                first | (exact absurd z145 (by decide)) | (exact absurd (by decide) z145) | (exact absurd rfl z145) | (exact absurd z145 (of_nn (by omega))) | (exact absurd (of_np (by omega)) z145) | omega
          · refine b_152_97 _ _ _ ?_ ?_
            · intro z97
              refine b_152_104 _ _ _ (by first | assumption | (exact mL_get (by decide)) | (rw [mL_len]; decide) | (simp only [mL_set]; exact mL_get (by decide)) | (simp only [mL_set, mL_len]; decide) | (exact va_eq) | (exact (va_ne (by omega)).trans (by assumption)) | (exact (va_ne (by omega)).trans va_eq) | (exact (va_ne (by omega)).trans ((va_ne (by omega)).trans (by assumption))) | (exact (va_ne (by omega)).trans ((va_ne (by omega)).trans ((va_ne (by omega)).trans (by assumption)))) | rfl | (exact Or.inl rfl) | (exact Or.inr rfl) | omega | (exact Nat.le_of_ble_eq_true rfl) | decide | (exact ⟨by decide, rfl, by decide⟩)) (by first | assumption | (exact mL_get (by decide)) | (rw [mL_len]; decide) | (simp only [mL_set]; exact mL_get (by decide)) | (simp only [mL_set, mL_len]; decide) | (exact va_eq) | (exact (va_ne (by omega)).trans (by assumption)) | (exact (va_ne (by omega)).trans va_eq) | (exact (va_ne (by omega)).trans ((va_ne (by omega)).trans (by assumption))) | (exact (va_ne (by omega)).trans ((va_ne (by omega)).trans ((va_ne (by omega)).trans (by assumption)))) | rfl | (exact Or.inl rfl) | (exact Or.inr rfl) | omega | (exact Nat.le_of_ble_eq_true rfl) | decide | (exact ⟨by decide, rfl, by decide⟩)) ?_
              refine sq_key hn hz (by decide) (fun k4 => ?_) (fun k4 => ?_)
              · refine b_152_110 _ _ _ ?_ ?_
                · intro z110
                  first | (exact absurd z110 (by decide)) | (exact absurd (by decide) z110) | (exact absurd rfl z110) | (exact absurd z110 (of_nn (by omega))) | (exact absurd (of_np (by omega)) z110) | omega
                · intro z110
                  refine b_152_113 _ _ _ ?_
                  refine b_152_145 _ _ _ ?_ ?_
                  · intro z145
                    exact K 4 (by unfold ms_oc; rw [if_neg k0, if_neg k1, if_neg k3, if_pos k4]) (by decide)
                  · intro z145
                    first | (exact absurd z145 (by decide)) | (exact absurd (by decide) z145) | (exact absurd rfl z145) | (exact absurd z145 (of_nn (by omega))) | (exact absurd (of_np (by omega)) z145) | omega
              · refine b_152_110 _ _ _ ?_ ?_
                · intro z110
                  refine b_152_117 _ _ _ (by first | assumption | (exact mL_get (by decide)) | (rw [mL_len]; decide) | (simp only [mL_set]; exact mL_get (by decide)) | (simp only [mL_set, mL_len]; decide) | (exact va_eq) | (exact (va_ne (by omega)).trans (by assumption)) | (exact (va_ne (by omega)).trans va_eq) | (exact (va_ne (by omega)).trans ((va_ne (by omega)).trans (by assumption))) | (exact (va_ne (by omega)).trans ((va_ne (by omega)).trans ((va_ne (by omega)).trans (by assumption)))) | rfl | (exact Or.inl rfl) | (exact Or.inr rfl) | omega | (exact Nat.le_of_ble_eq_true rfl) | decide | (exact ⟨by decide, rfl, by decide⟩)) (by first | assumption | (exact mL_get (by decide)) | (rw [mL_len]; decide) | (simp only [mL_set]; exact mL_get (by decide)) | (simp only [mL_set, mL_len]; decide) | (exact va_eq) | (exact (va_ne (by omega)).trans (by assumption)) | (exact (va_ne (by omega)).trans va_eq) | (exact (va_ne (by omega)).trans ((va_ne (by omega)).trans (by assumption))) | (exact (va_ne (by omega)).trans ((va_ne (by omega)).trans ((va_ne (by omega)).trans (by assumption)))) | rfl | (exact Or.inl rfl) | (exact Or.inr rfl) | omega | (exact Nat.le_of_ble_eq_true rfl) | decide | (exact ⟨by decide, rfl, by decide⟩)) ?_
                  refine sq_key hn hz (by decide) (fun k5 => ?_) (fun k5 => ?_)
                  · refine b_152_123 _ _ _ ?_ ?_
                    · intro z123
                      first | (exact absurd z123 (by decide)) | (exact absurd (by decide) z123) | (exact absurd rfl z123) | (exact absurd z123 (of_nn (by omega))) | (exact absurd (of_np (by omega)) z123) | omega
                    · intro z123
                      refine b_152_126 _ _ _ ?_
                      refine b_152_145 _ _ _ ?_ ?_
                      · intro z145
                        exact K 5 (by unfold ms_oc; rw [if_neg k0, if_neg k1, if_neg k3, if_neg k4, if_pos k5]) (by decide)
                      · intro z145
                        first | (exact absurd z145 (by decide)) | (exact absurd (by decide) z145) | (exact absurd rfl z145) | (exact absurd z145 (of_nn (by omega))) | (exact absurd (of_np (by omega)) z145) | omega
                  · refine b_152_123 _ _ _ ?_ ?_
                    · intro z123
                      refine b_152_130 _ _ _ (by first | assumption | (exact mL_get (by decide)) | (rw [mL_len]; decide) | (simp only [mL_set]; exact mL_get (by decide)) | (simp only [mL_set, mL_len]; decide) | (exact va_eq) | (exact (va_ne (by omega)).trans (by assumption)) | (exact (va_ne (by omega)).trans va_eq) | (exact (va_ne (by omega)).trans ((va_ne (by omega)).trans (by assumption))) | (exact (va_ne (by omega)).trans ((va_ne (by omega)).trans ((va_ne (by omega)).trans (by assumption)))) | rfl | (exact Or.inl rfl) | (exact Or.inr rfl) | omega | (exact Nat.le_of_ble_eq_true rfl) | decide | (exact ⟨by decide, rfl, by decide⟩)) (by first | assumption | (exact mL_get (by decide)) | (rw [mL_len]; decide) | (simp only [mL_set]; exact mL_get (by decide)) | (simp only [mL_set, mL_len]; decide) | (exact va_eq) | (exact (va_ne (by omega)).trans (by assumption)) | (exact (va_ne (by omega)).trans va_eq) | (exact (va_ne (by omega)).trans ((va_ne (by omega)).trans (by assumption))) | (exact (va_ne (by omega)).trans ((va_ne (by omega)).trans ((va_ne (by omega)).trans (by assumption)))) | rfl | (exact Or.inl rfl) | (exact Or.inr rfl) | omega | (exact Nat.le_of_ble_eq_true rfl) | decide | (exact ⟨by decide, rfl, by decide⟩)) ?_
                      refine sq_key hn hz (by decide) (fun k6 => ?_) (fun k6 => ?_)
                      · refine b_152_136 _ _ _ ?_ ?_
                        · intro z136
                          first | (exact absurd z136 (by decide)) | (exact absurd (by decide) z136) | (exact absurd rfl z136) | (exact absurd z136 (of_nn (by omega))) | (exact absurd (of_np (by omega)) z136) | omega
                        · intro z136
                          refine b_152_139 _ _ _ ?_
                          refine b_152_145 _ _ _ ?_ ?_
                          · intro z145
                            exact K 6 (by unfold ms_oc; rw [if_neg k0, if_neg k1, if_neg k3, if_neg k4, if_neg k5, if_pos k6]) (by decide)
                          · intro z145
                            first | (exact absurd z145 (by decide)) | (exact absurd (by decide) z145) | (exact absurd rfl z145) | (exact absurd z145 (of_nn (by omega))) | (exact absurd (of_np (by omega)) z145) | omega
                      · refine b_152_136 _ _ _ ?_ ?_
                        · intro z136
                          refine b_152_144 _ _ _ ?_
                          refine b_152_145 _ _ _ ?_ ?_
                          · intro z145
                            first | (exact absurd z145 (by decide)) | (exact absurd (by decide) z145) | (exact absurd rfl z145) | (exact absurd z145 (of_nn (by omega))) | (exact absurd (of_np (by omega)) z145) | omega
                          · intro z145
                            refine b_152_150 _ _ _ (by first | assumption | (exact mL_get (by decide)) | (rw [mL_len]; decide) | (simp only [mL_set]; exact mL_get (by decide)) | (simp only [mL_set, mL_len]; decide) | (exact va_eq) | (exact (va_ne (by omega)).trans (by assumption)) | (exact (va_ne (by omega)).trans va_eq) | (exact (va_ne (by omega)).trans ((va_ne (by omega)).trans (by assumption))) | (exact (va_ne (by omega)).trans ((va_ne (by omega)).trans ((va_ne (by omega)).trans (by assumption)))) | rfl | (exact Or.inl rfl) | (exact Or.inr rfl) | omega | (exact Nat.le_of_ble_eq_true rfl) | decide | (exact ⟨by decide, rfl, by decide⟩)) (by first | assumption | (exact mL_get (by decide)) | (rw [mL_len]; decide) | (simp only [mL_set]; exact mL_get (by decide)) | (simp only [mL_set, mL_len]; decide) | (exact va_eq) | (exact (va_ne (by omega)).trans (by assumption)) | (exact (va_ne (by omega)).trans va_eq) | (exact (va_ne (by omega)).trans ((va_ne (by omega)).trans (by assumption))) | (exact (va_ne (by omega)).trans ((va_ne (by omega)).trans ((va_ne (by omega)).trans (by assumption)))) | rfl | (exact Or.inl rfl) | (exact Or.inr rfl) | omega | (exact Nat.le_of_ble_eq_true rfl) | decide | (exact ⟨by decide, rfl, by decide⟩)) (by first | assumption | (exact mL_get (by decide)) | (rw [mL_len]; decide) | (simp only [mL_set]; exact mL_get (by decide)) | (simp only [mL_set, mL_len]; decide) | (exact va_eq) | (exact (va_ne (by omega)).trans (by assumption)) | (exact (va_ne (by omega)).trans va_eq) | (exact (va_ne (by omega)).trans ((va_ne (by omega)).trans (by assumption))) | (exact (va_ne (by omega)).trans ((va_ne (by omega)).trans ((va_ne (by omega)).trans (by assumption)))) | rfl | (exact Or.inl rfl) | (exact Or.inr rfl) | omega | (exact Nat.le_of_ble_eq_true rfl) | decide | (exact ⟨by decide, rfl, by decide⟩)) (by first | assumption | (exact mL_get (by decide)) | (rw [mL_len]; decide) | (simp only [mL_set]; exact mL_get (by decide)) | (simp only [mL_set, mL_len]; decide) | (exact va_eq) | (exact (va_ne (by omega)).trans (by assumption)) | (exact (va_ne (by omega)).trans va_eq) | (exact (va_ne (by omega)).trans ((va_ne (by omega)).trans (by assumption))) | (exact (va_ne (by omega)).trans ((va_ne (by omega)).trans ((va_ne (by omega)).trans (by assumption)))) | rfl | (exact Or.inl rfl) | (exact Or.inr rfl) | omega | (exact Nat.le_of_ble_eq_true rfl) | decide | (exact ⟨by decide, rfl, by decide⟩)) (by first | assumption | (exact mL_get (by decide)) | (rw [mL_len]; decide) | (simp only [mL_set]; exact mL_get (by decide)) | (simp only [mL_set, mL_len]; decide) | (exact va_eq) | (exact (va_ne (by omega)).trans (by assumption)) | (exact (va_ne (by omega)).trans va_eq) | (exact (va_ne (by omega)).trans ((va_ne (by omega)).trans (by assumption))) | (exact (va_ne (by omega)).trans ((va_ne (by omega)).trans ((va_ne (by omega)).trans (by assumption)))) | rfl | (exact Or.inl rfl) | (exact Or.inr rfl) | omega | (exact Nat.le_of_ble_eq_true rfl) | decide | (exact ⟨by decide, rfl, by decide⟩)) ?_
                            rw [h9]
                            refine sq_bad hn hz (fun z' a1 => ?_)
                            refine b_152_158 _ _ _ ?_
                            exact K0 z' (by unfold ms_oc; rw [if_neg k0, if_neg k1, if_neg k3, if_neg k4, if_neg k5, if_neg k6]) a1
                        · intro z136
                          first | (exact absurd z136 (by decide)) | (exact absurd (by decide) z136) | (exact absurd rfl z136) | (exact absurd z136 (of_nn (by omega))) | (exact absurd (of_np (by omega)) z136) | omega
                    · intro z123
                      first | (exact absurd z123 (by decide)) | (exact absurd (by decide) z123) | (exact absurd rfl z123) | (exact absurd z123 (of_nn (by omega))) | (exact absurd (of_np (by omega)) z123) | omega
                · intro z110
                  first | (exact absurd z110 (by decide)) | (exact absurd (by decide) z110) | (exact absurd rfl z110) | (exact absurd z110 (of_nn (by omega))) | (exact absurd (of_np (by omega)) z110) | omega
            · intro z97
              first | (exact absurd z97 (by decide)) | (exact absurd (by decide) z97) | (exact absurd rfl z97) | (exact absurd z97 (of_nn (by omega))) | (exact absurd (of_np (by omega)) z97) | omega
        · intro z84
          first | (exact absurd z84 (by decide)) | (exact absurd (by decide) z84) | (exact absurd rfl z84) | (exact absurd z84 (of_nn (by omega))) | (exact absurd (of_np (by omega)) z84) | omega
    · intro z71
      first | (exact absurd z71 (by decide)) | (exact absurd (by decide) z71) | (exact absurd rfl z71) | (exact absurd z71 (of_nn (by omega))) | (exact absurd (of_np (by omega)) z71) | omega
theorem sq_C0 (hn : 575 ≤ n) : mr_IC n sl s g L 0 := by
  intro d z σ Q hd hz ok er
  obtain ⟨e, rfl⟩ : ∃ e', d = e' + 14 := ⟨d - 14, by omega⟩
  have q505 := hz.1.1
  refine b_152_0 _ _ _ (by first | assumption | (exact mL_get (by decide)) | (rw [mL_len]; decide) | (simp only [mL_set]; exact mL_get (by decide)) | (simp only [mL_set, mL_len]; decide) | (exact va_eq) | (exact (va_ne (by omega)).trans (by assumption)) | (exact (va_ne (by omega)).trans va_eq) | (exact (va_ne (by omega)).trans ((va_ne (by omega)).trans (by assumption))) | (exact (va_ne (by omega)).trans ((va_ne (by omega)).trans ((va_ne (by omega)).trans (by assumption)))) | rfl | (exact Or.inl rfl) | (exact Or.inr rfl) | omega | (exact Nat.le_of_ble_eq_true rfl) | decide | (exact ⟨by decide, rfl, by decide⟩)) (by first | assumption | (exact mL_get (by decide)) | (rw [mL_len]; decide) | (simp only [mL_set]; exact mL_get (by decide)) | (simp only [mL_set, mL_len]; decide) | (exact va_eq) | (exact (va_ne (by omega)).trans (by assumption)) | (exact (va_ne (by omega)).trans va_eq) | (exact (va_ne (by omega)).trans ((va_ne (by omega)).trans (by assumption))) | (exact (va_ne (by omega)).trans ((va_ne (by omega)).trans ((va_ne (by omega)).trans (by assumption)))) | rfl | (exact Or.inl rfl) | (exact Or.inr rfl) | omega | (exact Nat.le_of_ble_eq_true rfl) | decide | (exact ⟨by decide, rfl, by decide⟩)) ?_
  refine sq_sign hn hz (by decide) (fun h => ?_) (fun h => ?_)
  · refine b_152_7 _ _ _ ?_ ?_
    · intro z7
      first | (exact absurd z7 (by decide)) | (exact absurd (by decide) z7) | (exact absurd rfl z7) | (exact absurd z7 (of_nn (by omega))) | (exact absurd (of_np (by omega)) z7) | omega
    · intro z7
      refine b_152_10 _ _ _ (by first | assumption | (exact mL_get (by decide)) | (rw [mL_len]; decide) | (simp only [mL_set]; exact mL_get (by decide)) | (simp only [mL_set, mL_len]; decide) | (exact va_eq) | (exact (va_ne (by omega)).trans (by assumption)) | (exact (va_ne (by omega)).trans va_eq) | (exact (va_ne (by omega)).trans ((va_ne (by omega)).trans (by assumption))) | (exact (va_ne (by omega)).trans ((va_ne (by omega)).trans ((va_ne (by omega)).trans (by assumption)))) | rfl | (exact Or.inl rfl) | (exact Or.inr rfl) | omega | (exact Nat.le_of_ble_eq_true rfl) | decide | (exact ⟨by decide, rfl, by decide⟩)) (by first | assumption | (exact mL_get (by decide)) | (rw [mL_len]; decide) | (simp only [mL_set]; exact mL_get (by decide)) | (simp only [mL_set, mL_len]; decide) | (exact va_eq) | (exact (va_ne (by omega)).trans (by assumption)) | (exact (va_ne (by omega)).trans va_eq) | (exact (va_ne (by omega)).trans ((va_ne (by omega)).trans (by assumption))) | (exact (va_ne (by omega)).trans ((va_ne (by omega)).trans ((va_ne (by omega)).trans (by assumption)))) | rfl | (exact Or.inl rfl) | (exact Or.inr rfl) | omega | (exact Nat.le_of_ble_eq_true rfl) | decide | (exact ⟨by decide, rfl, by decide⟩)) ?_
      refine sq_open hn hz (fun j z1 hj _ _ _ _ _ => ?_) (fun z1 hk0 he => ?_)
      · exact absurd hj (by omega)
      · have q505 := he.1.1
        refine b_152_14 _ _ _ ?_ ?_
        · intro z14
          refine b_152_24 _ _ _ ?_
          exact er z1 _ rfl he
        · intro z14
          first | (exact absurd z14 (by decide)) | (exact absurd (by decide) z14) | (exact absurd rfl z14) | (exact absurd z14 (of_nn (by omega))) | (exact absurd (of_np (by omega)) z14) | omega
  · refine b_152_7 _ _ _ ?_ ?_
    · intro z7
      refine sq_dC (d := e + 8) hn hz (fun op hop _ => ?_) (fun z' ho he => er z' _ rfl he)
      refine b_152_161 _ _ _ (by first | assumption | (exact mL_get (by decide)) | (rw [mL_len]; decide) | (simp only [mL_set]; exact mL_get (by decide)) | (simp only [mL_set, mL_len]; decide) | (exact va_eq) | (exact (va_ne (by omega)).trans (by assumption)) | (exact (va_ne (by omega)).trans va_eq) | (exact (va_ne (by omega)).trans ((va_ne (by omega)).trans (by assumption))) | (exact (va_ne (by omega)).trans ((va_ne (by omega)).trans ((va_ne (by omega)).trans (by assumption)))) | rfl | (exact Or.inl rfl) | (exact Or.inr rfl) | omega | (exact Nat.le_of_ble_eq_true rfl) | decide | (exact ⟨by decide, rfl, by decide⟩)) (by first | assumption | (exact mL_get (by decide)) | (rw [mL_len]; decide) | (simp only [mL_set]; exact mL_get (by decide)) | (simp only [mL_set, mL_len]; decide) | (exact va_eq) | (exact (va_ne (by omega)).trans (by assumption)) | (exact (va_ne (by omega)).trans va_eq) | (exact (va_ne (by omega)).trans ((va_ne (by omega)).trans (by assumption))) | (exact (va_ne (by omega)).trans ((va_ne (by omega)).trans ((va_ne (by omega)).trans (by assumption)))) | rfl | (exact Or.inl rfl) | (exact Or.inr rfl) | omega | (exact Nat.le_of_ble_eq_true rfl) | decide | (exact ⟨by decide, rfl, by decide⟩)) ?_
      refine sq_open hn hz (fun j z1 hj _ _ _ _ _ => ?_) (fun z1 hk0 he => ?_)
      · exact absurd hj (by omega)
      · have q505 := he.1.1
        refine b_152_165 _ _ _ ?_ ?_
        · intro h
          exact absurd rfl h
        · intro _
          refine b_152_168 _ _ _ ?_
          exact er z1 _ rfl he
    · intro z7
      first | (exact absurd z7 (by decide)) | (exact absurd (by decide) z7) | (exact absurd rfl z7) | (exact absurd z7 (of_nn (by omega))) | (exact absurd (of_np (by omega)) z7) | omega
theorem sq_C1 (hn : 575 ≤ n) (IHE : mr_IE n sl s g L j) (ih : mr_IC n sl s g L j) : mr_IC n sl s g L (j + 1) := by
  intro d z σ Q hd hz ok er
  obtain ⟨e, rfl⟩ : ∃ e', d = e' + 14 := ⟨d - 14, by omega⟩
  have q505 := hz.1.1
  have hk100 : j + 1 ≤ 100 := hz.2.2.2.2.2.1.2
  have hn80 : σ.n ≤ 800 := hz.2.2.2.2.1.2
  unfold mr_okC at ok
  unfold mr_erC at er
  refine b_152_0 _ _ _ (by first | assumption | (exact mL_get (by decide)) | (rw [mL_len]; decide) | (simp only [mL_set]; exact mL_get (by decide)) | (simp only [mL_set, mL_len]; decide) | (exact va_eq) | (exact (va_ne (by omega)).trans (by assumption)) | (exact (va_ne (by omega)).trans va_eq) | (exact (va_ne (by omega)).trans ((va_ne (by omega)).trans (by assumption))) | (exact (va_ne (by omega)).trans ((va_ne (by omega)).trans ((va_ne (by omega)).trans (by assumption)))) | rfl | (exact Or.inl rfl) | (exact Or.inr rfl) | omega | (exact Nat.le_of_ble_eq_true rfl) | decide | (exact ⟨by decide, rfl, by decide⟩)) (by first | assumption | (exact mL_get (by decide)) | (rw [mL_len]; decide) | (simp only [mL_set]; exact mL_get (by decide)) | (simp only [mL_set, mL_len]; decide) | (exact va_eq) | (exact (va_ne (by omega)).trans (by assumption)) | (exact (va_ne (by omega)).trans va_eq) | (exact (va_ne (by omega)).trans ((va_ne (by omega)).trans (by assumption))) | (exact (va_ne (by omega)).trans ((va_ne (by omega)).trans ((va_ne (by omega)).trans (by assumption)))) | rfl | (exact Or.inl rfl) | (exact Or.inr rfl) | omega | (exact Nat.le_of_ble_eq_true rfl) | decide | (exact ⟨by decide, rfl, by decide⟩)) ?_
  refine sq_sign hn hz (by decide) (fun hp => ?_) (fun hp => ?_)
  · have hsp : ms_C g L (j + 1) σ = ms_eb (ms_C g L j (σ.nx g L)) (fun _ σ => ms_need g L (ms_kc 41) σ) := by rw [ms_Cr_s, if_pos hp]
    refine b_152_7 _ _ _ ?_ ?_
    · intro z7
      first | (exact absurd z7 (by decide)) | (exact absurd (by decide) z7) | (exact absurd rfl z7) | (exact absurd z7 (of_nn (by omega))) | (exact absurd (of_np (by omega)) z7) | omega
    · intro z7
      refine b_152_10 _ _ _ (by first | assumption | (exact mL_get (by decide)) | (rw [mL_len]; decide) | (simp only [mL_set]; exact mL_get (by decide)) | (simp only [mL_set, mL_len]; decide) | (exact va_eq) | (exact (va_ne (by omega)).trans (by assumption)) | (exact (va_ne (by omega)).trans va_eq) | (exact (va_ne (by omega)).trans ((va_ne (by omega)).trans (by assumption))) | (exact (va_ne (by omega)).trans ((va_ne (by omega)).trans ((va_ne (by omega)).trans (by assumption)))) | rfl | (exact Or.inl rfl) | (exact Or.inr rfl) | omega | (exact Nat.le_of_ble_eq_true rfl) | decide | (exact ⟨by decide, rfl, by decide⟩)) (by first | assumption | (exact mL_get (by decide)) | (rw [mL_len]; decide) | (simp only [mL_set]; exact mL_get (by decide)) | (simp only [mL_set, mL_len]; decide) | (exact va_eq) | (exact (va_ne (by omega)).trans (by assumption)) | (exact (va_ne (by omega)).trans va_eq) | (exact (va_ne (by omega)).trans ((va_ne (by omega)).trans (by assumption))) | (exact (va_ne (by omega)).trans ((va_ne (by omega)).trans ((va_ne (by omega)).trans (by assumption)))) | rfl | (exact Or.inl rfl) | (exact Or.inr rfl) | omega | (exact Nat.le_of_ble_eq_true rfl) | decide | (exact ⟨by decide, rfl, by decide⟩)) ?_
      refine sq_open hn hz (fun j' z1 hj hz1 hg1 hI1 hJ1 hY1 => ?_) (fun z1 hk0 he => ?_)
      · obtain rfl : j' = j := by omega
        have q505 := hz1.1.1
        refine b_152_14 _ _ _ ?_ ?_
        · intro z14
          first | (exact absurd z14 (by decide)) | (exact absurd (by decide) z14) | (exact absurd rfl z14) | (exact absurd z14 (of_nn (by omega))) | (exact absurd (of_np (by omega)) z14) | omega
        · intro z14
          refine b_152_17 _ _ _ (by first | assumption | (exact mL_get (by decide)) | (rw [mL_len]; decide) | (simp only [mL_set]; exact mL_get (by decide)) | (simp only [mL_set, mL_len]; decide) | (exact va_eq) | (exact (va_ne (by omega)).trans (by assumption)) | (exact (va_ne (by omega)).trans va_eq) | (exact (va_ne (by omega)).trans ((va_ne (by omega)).trans (by assumption))) | (exact (va_ne (by omega)).trans ((va_ne (by omega)).trans ((va_ne (by omega)).trans (by assumption)))) | rfl | (exact Or.inl rfl) | (exact Or.inr rfl) | omega | (exact Nat.le_of_ble_eq_true rfl) | decide | (exact ⟨by decide, rfl, by decide⟩)) (by first | assumption | (exact mL_get (by decide)) | (rw [mL_len]; decide) | (simp only [mL_set]; exact mL_get (by decide)) | (simp only [mL_set, mL_len]; decide) | (exact va_eq) | (exact (va_ne (by omega)).trans (by assumption)) | (exact (va_ne (by omega)).trans va_eq) | (exact (va_ne (by omega)).trans ((va_ne (by omega)).trans (by assumption))) | (exact (va_ne (by omega)).trans ((va_ne (by omega)).trans ((va_ne (by omega)).trans (by assumption)))) | rfl | (exact Or.inl rfl) | (exact Or.inr rfl) | omega | (exact Nat.le_of_ble_eq_true rfl) | decide | (exact ⟨by decide, rfl, by decide⟩)) ?_
          refine sq_next hn hz1 (fun z2 h402 hz2 hg2 hI2 hJ2 => ?_) (fun z2 h402 he => ?_)
          · have q505 := hz2.1.1
            refine b_152_21 _ _ _ ?_ ?_
            · intro z21
              refine b_152_26 _ _ _ (by first | assumption | (exact mL_get (by decide)) | (rw [mL_len]; decide) | (simp only [mL_set]; exact mL_get (by decide)) | (simp only [mL_set, mL_len]; decide) | (exact va_eq) | (exact (va_ne (by omega)).trans (by assumption)) | (exact (va_ne (by omega)).trans va_eq) | (exact (va_ne (by omega)).trans ((va_ne (by omega)).trans (by assumption))) | (exact (va_ne (by omega)).trans ((va_ne (by omega)).trans ((va_ne (by omega)).trans (by assumption)))) | rfl | (exact Or.inl rfl) | (exact Or.inr rfl) | omega | (exact Nat.le_of_ble_eq_true rfl) | decide | (exact ⟨by decide, rfl, by decide⟩)) (by first | assumption | (exact mL_get (by decide)) | (rw [mL_len]; decide) | (simp only [mL_set]; exact mL_get (by decide)) | (simp only [mL_set, mL_len]; decide) | (exact va_eq) | (exact (va_ne (by omega)).trans (by assumption)) | (exact (va_ne (by omega)).trans va_eq) | (exact (va_ne (by omega)).trans ((va_ne (by omega)).trans (by assumption))) | (exact (va_ne (by omega)).trans ((va_ne (by omega)).trans ((va_ne (by omega)).trans (by assumption)))) | rfl | (exact Or.inl rfl) | (exact Or.inr rfl) | omega | (exact Nat.le_of_ble_eq_true rfl) | decide | (exact ⟨by decide, rfl, by decide⟩)) ?_
              refine ih (e + 13) _ _ _ (by omega) hz2 (fun z3 σ3 hok3 h403 hz3 hg3 hr3 hm3 => ?_) (fun z3 w hbad he => ?_)
              · have q505 := hz3.1.1
                rw [hok3, ms_eb_ok] at hsp
                have hn1 : (σ.nx g L).n = σ.n := rfl
                have hn80 := hz.2.2.2.2.1.2
                refine b_152_30 _ _ _ (by first | assumption | (exact mL_get (by decide)) | (rw [mL_len]; decide) | (simp only [mL_set]; exact mL_get (by decide)) | (simp only [mL_set, mL_len]; decide) | (exact va_eq) | (exact (va_ne (by omega)).trans (by assumption)) | (exact (va_ne (by omega)).trans va_eq) | (exact (va_ne (by omega)).trans ((va_ne (by omega)).trans (by assumption))) | (exact (va_ne (by omega)).trans ((va_ne (by omega)).trans ((va_ne (by omega)).trans (by assumption)))) | rfl | (exact Or.inl rfl) | (exact Or.inr rfl) | omega | (exact Nat.le_of_ble_eq_true rfl) | decide | (exact ⟨by decide, rfl, by decide⟩)) (by first | assumption | (exact mL_get (by decide)) | (rw [mL_len]; decide) | (simp only [mL_set]; exact mL_get (by decide)) | (simp only [mL_set, mL_len]; decide) | (exact va_eq) | (exact (va_ne (by omega)).trans (by assumption)) | (exact (va_ne (by omega)).trans va_eq) | (exact (va_ne (by omega)).trans ((va_ne (by omega)).trans (by assumption))) | (exact (va_ne (by omega)).trans ((va_ne (by omega)).trans ((va_ne (by omega)).trans (by assumption)))) | rfl | (exact Or.inl rfl) | (exact Or.inr rfl) | omega | (exact Nat.le_of_ble_eq_true rfl) | decide | (exact ⟨by decide, rfl, by decide⟩)) (by first | assumption | (exact mL_get (by decide)) | (rw [mL_len]; decide) | (simp only [mL_set]; exact mL_get (by decide)) | (simp only [mL_set, mL_len]; decide) | (exact va_eq) | (exact (va_ne (by omega)).trans (by assumption)) | (exact (va_ne (by omega)).trans va_eq) | (exact (va_ne (by omega)).trans ((va_ne (by omega)).trans (by assumption))) | (exact (va_ne (by omega)).trans ((va_ne (by omega)).trans ((va_ne (by omega)).trans (by assumption)))) | rfl | (exact Or.inl rfl) | (exact Or.inr rfl) | omega | (exact Nat.le_of_ble_eq_true rfl) | decide | (exact ⟨by decide, rfl, by decide⟩)) (by first | assumption | (exact mL_get (by decide)) | (rw [mL_len]; decide) | (simp only [mL_set]; exact mL_get (by decide)) | (simp only [mL_set, mL_len]; decide) | (exact va_eq) | (exact (va_ne (by omega)).trans (by assumption)) | (exact (va_ne (by omega)).trans va_eq) | (exact (va_ne (by omega)).trans ((va_ne (by omega)).trans (by assumption))) | (exact (va_ne (by omega)).trans ((va_ne (by omega)).trans ((va_ne (by omega)).trans (by assumption)))) | rfl | (exact Or.inl rfl) | (exact Or.inr rfl) | omega | (exact Nat.le_of_ble_eq_true rfl) | decide | (exact ⟨by decide, rfl, by decide⟩)) (by first | assumption | (exact mL_get (by decide)) | (rw [mL_len]; decide) | (simp only [mL_set]; exact mL_get (by decide)) | (simp only [mL_set, mL_len]; decide) | (exact va_eq) | (exact (va_ne (by omega)).trans (by assumption)) | (exact (va_ne (by omega)).trans va_eq) | (exact (va_ne (by omega)).trans ((va_ne (by omega)).trans (by assumption))) | (exact (va_ne (by omega)).trans ((va_ne (by omega)).trans ((va_ne (by omega)).trans (by assumption)))) | rfl | (exact Or.inl rfl) | (exact Or.inr rfl) | omega | (exact Nat.le_of_ble_eq_true rfl) | decide | (exact ⟨by decide, rfl, by decide⟩)) (by first | assumption | (exact mL_get (by decide)) | (rw [mL_len]; decide) | (simp only [mL_set]; exact mL_get (by decide)) | (simp only [mL_set, mL_len]; decide) | (exact va_eq) | (exact (va_ne (by omega)).trans (by assumption)) | (exact (va_ne (by omega)).trans va_eq) | (exact (va_ne (by omega)).trans ((va_ne (by omega)).trans (by assumption))) | (exact (va_ne (by omega)).trans ((va_ne (by omega)).trans ((va_ne (by omega)).trans (by assumption)))) | rfl | (exact Or.inl rfl) | (exact Or.inr rfl) | omega | (exact Nat.le_of_ble_eq_true rfl) | decide | (exact ⟨by decide, rfl, by decide⟩)) ?_ ?_
                · intro z30
                  first | (exact absurd z30 (by decide)) | (exact absurd (by decide) z30) | (exact absurd rfl z30) | (exact absurd z30 (of_nn (by omega))) | (exact absurd (of_np (by omega)) z30) | omega
                · intro z30
                  show mi_W _ _ _ _ _ (n, sl, (mr_x22 (z3.X 22 - 1) z3 s).f) _
                  have h22 : z3.X 22 = _ := hz3.2.2.2.2.2.1.1
                  have hz4 := mr_x22_st (v := z3.X 22 - 1) (j := j' + 1) hz3 (by rw [h22, show (1 : Int32) = Int32.ofNat 1 from rfl, of_sub' (by omega), show 100 - j' - 1 = 100 - (j' + 1) by omega]) (by omega)
                  have hg4 := (((hg1.trans hg2).trans hg3)).x22 (v := z3.X 22 - 1) (s := s)
                  have hr4 : mr_rg (σ.nx g L).n σ3.n (mr_x22 (z3.X 22 - 1) z3 s) σ3 := hr3.to (fun _ _ _ => mr_x22_kp) (fun _ _ _ => rfl)
                  generalize hw4 : mr_x22 (z3.X 22 - 1) z3 s = z4 at *
                  have q505 := hz4.1.1
                  refine b_152_45 _ _ _ (by first | assumption | (exact mL_get (by decide)) | (rw [mL_len]; decide) | (simp only [mL_set]; exact mL_get (by decide)) | (simp only [mL_set, mL_len]; decide) | (exact va_eq) | (exact (va_ne (by omega)).trans (by assumption)) | (exact (va_ne (by omega)).trans va_eq) | (exact (va_ne (by omega)).trans ((va_ne (by omega)).trans (by assumption))) | (exact (va_ne (by omega)).trans ((va_ne (by omega)).trans ((va_ne (by omega)).trans (by assumption)))) | rfl | (exact Or.inl rfl) | (exact Or.inr rfl) | omega | (exact Nat.le_of_ble_eq_true rfl) | decide | (exact ⟨by decide, rfl, by decide⟩)) (by first | assumption | (exact mL_get (by decide)) | (rw [mL_len]; decide) | (simp only [mL_set]; exact mL_get (by decide)) | (simp only [mL_set, mL_len]; decide) | (exact va_eq) | (exact (va_ne (by omega)).trans (by assumption)) | (exact (va_ne (by omega)).trans va_eq) | (exact (va_ne (by omega)).trans ((va_ne (by omega)).trans (by assumption))) | (exact (va_ne (by omega)).trans ((va_ne (by omega)).trans ((va_ne (by omega)).trans (by assumption)))) | rfl | (exact Or.inl rfl) | (exact Or.inr rfl) | omega | (exact Nat.le_of_ble_eq_true rfl) | decide | (exact ⟨by decide, rfl, by decide⟩)) ?_
                  refine sq_sign hn hz4 (by decide) (fun hs => ?_) (fun hs => ?_)
                  · have ha : (1 : Int32) = 1 ∧ σ3.t.k = ms_kc 41 ∨ (1 : Int32) = 0 ∧ ¬ σ3.t.k = ms_kc 41 := Or.inl ⟨rfl, hs⟩
                    refine b_152_53 _ _ _ (by first | assumption | (exact mL_get (by decide)) | (rw [mL_len]; decide) | (simp only [mL_set]; exact mL_get (by decide)) | (simp only [mL_set, mL_len]; decide) | (exact va_eq) | (exact (va_ne (by omega)).trans (by assumption)) | (exact (va_ne (by omega)).trans va_eq) | (exact (va_ne (by omega)).trans ((va_ne (by omega)).trans (by assumption))) | (exact (va_ne (by omega)).trans ((va_ne (by omega)).trans ((va_ne (by omega)).trans (by assumption)))) | rfl | (exact Or.inl rfl) | (exact Or.inr rfl) | omega | (exact Nat.le_of_ble_eq_true rfl) | decide | (exact ⟨by decide, rfl, by decide⟩)) (by first | assumption | (exact mL_get (by decide)) | (rw [mL_len]; decide) | (simp only [mL_set]; exact mL_get (by decide)) | (simp only [mL_set, mL_len]; decide) | (exact va_eq) | (exact (va_ne (by omega)).trans (by assumption)) | (exact (va_ne (by omega)).trans va_eq) | (exact (va_ne (by omega)).trans ((va_ne (by omega)).trans (by assumption))) | (exact (va_ne (by omega)).trans ((va_ne (by omega)).trans ((va_ne (by omega)).trans (by assumption)))) | rfl | (exact Or.inl rfl) | (exact Or.inr rfl) | omega | (exact Nat.le_of_ble_eq_true rfl) | decide | (exact ⟨by decide, rfl, by decide⟩)) ?_
                    refine sq_need hn hz4 ha (fun z5 h405 hne5 hz5 hg5 hI5 hJ5 => ?_) (fun z5 w hbad he => ?_)
                    · refine b_152_56 _ _ _ ?_ ?_
                      · intro z56
                        first | (exact absurd z56 (by decide)) | (exact absurd (by decide) z56) | (exact absurd rfl z56) | (exact absurd z56 (of_nn (by omega))) | (exact absurd (of_np (by omega)) z56) | omega
                      · intro z56
                        refine b_152_59 _ _ _ ?_
                        refine b_152_64 _ _ _ ?_
                        exact ok z5 _ (hsp.trans hne5) h405 hz5 (hg4.trans hg5) (hr4.go hg5 (Nat.le_refl _)) ((hm3.go (hi' := (σ3.nx g L).n) hg5 (Nat.le_refl _) (Nat.le_refl _)).mono)
                    · have hbadF : ms_bad (ms_C g L (j' + 1) σ) w := by rw [hsp]; exact hbad
                      have he0 := hg4.er he
                      refine b_152_56 _ _ _ ?_ ?_
                      · intro z56
                        refine b_152_63 _ _ _ ?_
                        refine b_152_64 _ _ _ ?_
                        exact er _ w hbadF he0
                      · intro z56
                        first | (exact absurd z56 (by decide)) | (exact absurd (by decide) z56) | (exact absurd rfl z56) | (exact absurd z56 (of_nn (by omega))) | (exact absurd (of_np (by omega)) z56) | omega
                  · have ha : (0 : Int32) = 1 ∧ σ3.t.k = ms_kc 41 ∨ (0 : Int32) = 0 ∧ ¬ σ3.t.k = ms_kc 41 := Or.inr ⟨rfl, hs⟩
                    refine b_152_53 _ _ _ (by first | assumption | (exact mL_get (by decide)) | (rw [mL_len]; decide) | (simp only [mL_set]; exact mL_get (by decide)) | (simp only [mL_set, mL_len]; decide) | (exact va_eq) | (exact (va_ne (by omega)).trans (by assumption)) | (exact (va_ne (by omega)).trans va_eq) | (exact (va_ne (by omega)).trans ((va_ne (by omega)).trans (by assumption))) | (exact (va_ne (by omega)).trans ((va_ne (by omega)).trans ((va_ne (by omega)).trans (by assumption)))) | rfl | (exact Or.inl rfl) | (exact Or.inr rfl) | omega | (exact Nat.le_of_ble_eq_true rfl) | decide | (exact ⟨by decide, rfl, by decide⟩)) (by first | assumption | (exact mL_get (by decide)) | (rw [mL_len]; decide) | (simp only [mL_set]; exact mL_get (by decide)) | (simp only [mL_set, mL_len]; decide) | (exact va_eq) | (exact (va_ne (by omega)).trans (by assumption)) | (exact (va_ne (by omega)).trans va_eq) | (exact (va_ne (by omega)).trans ((va_ne (by omega)).trans (by assumption))) | (exact (va_ne (by omega)).trans ((va_ne (by omega)).trans ((va_ne (by omega)).trans (by assumption)))) | rfl | (exact Or.inl rfl) | (exact Or.inr rfl) | omega | (exact Nat.le_of_ble_eq_true rfl) | decide | (exact ⟨by decide, rfl, by decide⟩)) ?_
                    refine sq_need hn hz4 ha (fun z5 h405 hne5 hz5 hg5 hI5 hJ5 => ?_) (fun z5 w hbad he => ?_)
                    · refine b_152_56 _ _ _ ?_ ?_
                      · intro z56
                        first | (exact absurd z56 (by decide)) | (exact absurd (by decide) z56) | (exact absurd rfl z56) | (exact absurd z56 (of_nn (by omega))) | (exact absurd (of_np (by omega)) z56) | omega
                      · intro z56
                        refine b_152_59 _ _ _ ?_
                        refine b_152_64 _ _ _ ?_
                        exact ok z5 _ (hsp.trans hne5) h405 hz5 (hg4.trans hg5) (hr4.go hg5 (Nat.le_refl _)) ((hm3.go (hi' := (σ3.nx g L).n) hg5 (Nat.le_refl _) (Nat.le_refl _)).mono)
                    · have hbadF : ms_bad (ms_C g L (j' + 1) σ) w := by rw [hsp]; exact hbad
                      have he0 := hg4.er he
                      refine b_152_56 _ _ _ ?_ ?_
                      · intro z56
                        refine b_152_63 _ _ _ ?_
                        refine b_152_64 _ _ _ ?_
                        exact er _ w hbadF he0
                      · intro z56
                        first | (exact absurd z56 (by decide)) | (exact absurd (by decide) z56) | (exact absurd rfl z56) | (exact absurd z56 (of_nn (by omega))) | (exact absurd (of_np (by omega)) z56) | omega
              · have hbadF : ms_bad (ms_C g L (j' + 1) σ) w := by rw [hsp]; exact hbad.bind (fun x σ' h => by rw [ms_need_odd h (by decide)]; exact rfl)
                have q505 := he.1.1
                have he0 := (hg1.trans hg2).er he
                refine b_152_30 _ _ _ (by first | assumption | (exact mL_get (by decide)) | (rw [mL_len]; decide) | (simp only [mL_set]; exact mL_get (by decide)) | (simp only [mL_set, mL_len]; decide) | (exact va_eq) | (exact (va_ne (by omega)).trans (by assumption)) | (exact (va_ne (by omega)).trans va_eq) | (exact (va_ne (by omega)).trans ((va_ne (by omega)).trans (by assumption))) | (exact (va_ne (by omega)).trans ((va_ne (by omega)).trans ((va_ne (by omega)).trans (by assumption)))) | rfl | (exact Or.inl rfl) | (exact Or.inr rfl) | omega | (exact Nat.le_of_ble_eq_true rfl) | decide | (exact ⟨by decide, rfl, by decide⟩)) (by first | assumption | (exact mL_get (by decide)) | (rw [mL_len]; decide) | (simp only [mL_set]; exact mL_get (by decide)) | (simp only [mL_set, mL_len]; decide) | (exact va_eq) | (exact (va_ne (by omega)).trans (by assumption)) | (exact (va_ne (by omega)).trans va_eq) | (exact (va_ne (by omega)).trans ((va_ne (by omega)).trans (by assumption))) | (exact (va_ne (by omega)).trans ((va_ne (by omega)).trans ((va_ne (by omega)).trans (by assumption)))) | rfl | (exact Or.inl rfl) | (exact Or.inr rfl) | omega | (exact Nat.le_of_ble_eq_true rfl) | decide | (exact ⟨by decide, rfl, by decide⟩)) (by first | assumption | (exact mL_get (by decide)) | (rw [mL_len]; decide) | (simp only [mL_set]; exact mL_get (by decide)) | (simp only [mL_set, mL_len]; decide) | (exact va_eq) | (exact (va_ne (by omega)).trans (by assumption)) | (exact (va_ne (by omega)).trans va_eq) | (exact (va_ne (by omega)).trans ((va_ne (by omega)).trans (by assumption))) | (exact (va_ne (by omega)).trans ((va_ne (by omega)).trans ((va_ne (by omega)).trans (by assumption)))) | rfl | (exact Or.inl rfl) | (exact Or.inr rfl) | omega | (exact Nat.le_of_ble_eq_true rfl) | decide | (exact ⟨by decide, rfl, by decide⟩)) (by first | assumption | (exact mL_get (by decide)) | (rw [mL_len]; decide) | (simp only [mL_set]; exact mL_get (by decide)) | (simp only [mL_set, mL_len]; decide) | (exact va_eq) | (exact (va_ne (by omega)).trans (by assumption)) | (exact (va_ne (by omega)).trans va_eq) | (exact (va_ne (by omega)).trans ((va_ne (by omega)).trans (by assumption))) | (exact (va_ne (by omega)).trans ((va_ne (by omega)).trans ((va_ne (by omega)).trans (by assumption)))) | rfl | (exact Or.inl rfl) | (exact Or.inr rfl) | omega | (exact Nat.le_of_ble_eq_true rfl) | decide | (exact ⟨by decide, rfl, by decide⟩)) (by first | assumption | (exact mL_get (by decide)) | (rw [mL_len]; decide) | (simp only [mL_set]; exact mL_get (by decide)) | (simp only [mL_set, mL_len]; decide) | (exact va_eq) | (exact (va_ne (by omega)).trans (by assumption)) | (exact (va_ne (by omega)).trans va_eq) | (exact (va_ne (by omega)).trans ((va_ne (by omega)).trans (by assumption))) | (exact (va_ne (by omega)).trans ((va_ne (by omega)).trans ((va_ne (by omega)).trans (by assumption)))) | rfl | (exact Or.inl rfl) | (exact Or.inr rfl) | omega | (exact Nat.le_of_ble_eq_true rfl) | decide | (exact ⟨by decide, rfl, by decide⟩)) (by first | assumption | (exact mL_get (by decide)) | (rw [mL_len]; decide) | (simp only [mL_set]; exact mL_get (by decide)) | (simp only [mL_set, mL_len]; decide) | (exact va_eq) | (exact (va_ne (by omega)).trans (by assumption)) | (exact (va_ne (by omega)).trans va_eq) | (exact (va_ne (by omega)).trans ((va_ne (by omega)).trans (by assumption))) | (exact (va_ne (by omega)).trans ((va_ne (by omega)).trans ((va_ne (by omega)).trans (by assumption)))) | rfl | (exact Or.inl rfl) | (exact Or.inr rfl) | omega | (exact Nat.le_of_ble_eq_true rfl) | decide | (exact ⟨by decide, rfl, by decide⟩)) ?_ ?_
                · intro z30
                  show mi_W _ _ _ _ _ (n, sl, (mr_x22 (z3.X 22 - 1) z3 s).f) _
                  have he0 := mr_x22_er (v := z3.X 22 - 1) he0
                  have q505 := he0.1.1
                  refine b_152_63 _ _ _ ?_
                  refine b_152_64 _ _ _ ?_
                  exact er _ w hbadF he0
                · intro z30
                  first | (exact absurd z30 (by decide)) | (exact absurd (by decide) z30) | (exact absurd rfl z30) | (exact absurd z30 (of_nn (by omega))) | (exact absurd (of_np (by omega)) z30) | omega
            · intro z21
              first | (exact absurd z21 (by decide)) | (exact absurd (by decide) z21) | (exact absurd rfl z21) | (exact absurd z21 (of_nn (by omega))) | (exact absurd (of_np (by omega)) z21) | omega
          · refine b_152_21 _ _ _ ?_ ?_
            · intro z21
              first | (exact absurd z21 (by decide)) | (exact absurd (by decide) z21) | (exact absurd rfl z21) | (exact absurd z21 (of_nn (by omega))) | (exact absurd (of_np (by omega)) z21) | omega
            · intro z21
              refine b_152_24 _ _ _ ?_
              refine er z2 _ ?_ (hg1.er he)
              rw [hsp, ms_C_odd h402, ms_eb_er]
              exact rfl
      · exact absurd hk0 (by omega)
  · refine b_152_7 _ _ _ ?_ ?_
    · intro z7
      refine sq_dC (d := e + 8) hn hz (fun op hop hop6 => ?_) (fun z' ho he => er z' _ (by rw [ms_Cr_s, if_neg hp, ho]; exact rfl) he)
      have hsp : ms_C g L (j + 1) σ = if σ.n = 800 then .error σ.t.a else ms_pt g L (ms_E g L j) (ms_C g L j) op σ.n (σ.add.nx g L) := by rw [ms_Cr_s, if_neg hp, hop]
      refine b_152_161 _ _ _ (by first | assumption | (exact mL_get (by decide)) | (rw [mL_len]; decide) | (simp only [mL_set]; exact mL_get (by decide)) | (simp only [mL_set, mL_len]; decide) | (exact va_eq) | (exact (va_ne (by omega)).trans (by assumption)) | (exact (va_ne (by omega)).trans va_eq) | (exact (va_ne (by omega)).trans ((va_ne (by omega)).trans (by assumption))) | (exact (va_ne (by omega)).trans ((va_ne (by omega)).trans ((va_ne (by omega)).trans (by assumption)))) | rfl | (exact Or.inl rfl) | (exact Or.inr rfl) | omega | (exact Nat.le_of_ble_eq_true rfl) | decide | (exact ⟨by decide, rfl, by decide⟩)) (by first | assumption | (exact mL_get (by decide)) | (rw [mL_len]; decide) | (simp only [mL_set]; exact mL_get (by decide)) | (simp only [mL_set, mL_len]; decide) | (exact va_eq) | (exact (va_ne (by omega)).trans (by assumption)) | (exact (va_ne (by omega)).trans va_eq) | (exact (va_ne (by omega)).trans ((va_ne (by omega)).trans (by assumption))) | (exact (va_ne (by omega)).trans ((va_ne (by omega)).trans ((va_ne (by omega)).trans (by assumption)))) | rfl | (exact Or.inl rfl) | (exact Or.inr rfl) | omega | (exact Nat.le_of_ble_eq_true rfl) | decide | (exact ⟨by decide, rfl, by decide⟩)) ?_
      refine sq_open hn hz (fun j' z1 hj hz1 hg1 hI1 hJ1 hY1 => ?_) (fun z1 hk0 he => ?_)
      · obtain rfl : j' = j := by omega
        have q505 := hz1.1.1
        refine b_152_165 _ _ _ ?_ ?_
        · intro z165
          refine b_152_170 _ _ _ (by first | assumption | (exact mL_get (by decide)) | (rw [mL_len]; decide) | (simp only [mL_set]; exact mL_get (by decide)) | (simp only [mL_set, mL_len]; decide) | (exact va_eq) | (exact (va_ne (by omega)).trans (by assumption)) | (exact (va_ne (by omega)).trans va_eq) | (exact (va_ne (by omega)).trans ((va_ne (by omega)).trans (by assumption))) | (exact (va_ne (by omega)).trans ((va_ne (by omega)).trans ((va_ne (by omega)).trans (by assumption)))) | rfl | (exact Or.inl rfl) | (exact Or.inr rfl) | omega | (exact Nat.le_of_ble_eq_true rfl) | decide | (exact ⟨by decide, rfl, by decide⟩)) (by first | assumption | (exact mL_get (by decide)) | (rw [mL_len]; decide) | (simp only [mL_set]; exact mL_get (by decide)) | (simp only [mL_set, mL_len]; decide) | (exact va_eq) | (exact (va_ne (by omega)).trans (by assumption)) | (exact (va_ne (by omega)).trans va_eq) | (exact (va_ne (by omega)).trans ((va_ne (by omega)).trans (by assumption))) | (exact (va_ne (by omega)).trans ((va_ne (by omega)).trans ((va_ne (by omega)).trans (by assumption)))) | rfl | (exact Or.inl rfl) | (exact Or.inr rfl) | omega | (exact Nat.le_of_ble_eq_true rfl) | decide | (exact ⟨by decide, rfl, by decide⟩)) ?_
          refine sq_node hn hz1 (fun z2 h8 hz2 hg2 hA2 hJ2 hY2 => ?_) (fun z2 h8 he => ?_)
          · have q505 := hz2.1.1
            rw [if_neg h8] at hsp
            refine b_152_175 _ _ _ ?_ ?_
            · intro z175
              first | (exact absurd z175 (by decide)) | (exact absurd (by decide) z175) | (exact absurd rfl z175) | (exact absurd z175 (of_nn (by omega))) | (exact absurd (of_np (by omega)) z175) | omega
            · intro z175
              refine b_152_180 _ _ _ (by first | assumption | (exact mL_get (by decide)) | (rw [mL_len]; decide) | (simp only [mL_set]; exact mL_get (by decide)) | (simp only [mL_set, mL_len]; decide) | (exact va_eq) | (exact (va_ne (by omega)).trans (by assumption)) | (exact (va_ne (by omega)).trans va_eq) | (exact (va_ne (by omega)).trans ((va_ne (by omega)).trans (by assumption))) | (exact (va_ne (by omega)).trans ((va_ne (by omega)).trans ((va_ne (by omega)).trans (by assumption)))) | rfl | (exact Or.inl rfl) | (exact Or.inr rfl) | omega | (exact Nat.le_of_ble_eq_true rfl) | decide | (exact ⟨by decide, rfl, by decide⟩)) (by first | assumption | (exact mL_get (by decide)) | (rw [mL_len]; decide) | (simp only [mL_set]; exact mL_get (by decide)) | (simp only [mL_set, mL_len]; decide) | (exact va_eq) | (exact (va_ne (by omega)).trans (by assumption)) | (exact (va_ne (by omega)).trans va_eq) | (exact (va_ne (by omega)).trans ((va_ne (by omega)).trans (by assumption))) | (exact (va_ne (by omega)).trans ((va_ne (by omega)).trans ((va_ne (by omega)).trans (by assumption)))) | rfl | (exact Or.inl rfl) | (exact Or.inr rfl) | omega | (exact Nat.le_of_ble_eq_true rfl) | decide | (exact ⟨by decide, rfl, by decide⟩)) ?_
              refine sq_next hn hz2 (fun z3 h403 hz3 hg3 hI3 hJ3 => ?_) (fun z3 h403 he => ?_)
              · have q505 := hz3.1.1
                have hA3 : z3.I 509 σ.n = Int32.ofNat op := by rw [hI3]; exact hA2
                refine b_152_184 _ _ _ ?_ ?_
                · intro z184
                  first | (exact absurd z184 (by decide)) | (exact absurd (by decide) z184) | (exact absurd rfl z184) | (exact absurd z184 (of_nn (by omega))) | (exact absurd (of_np (by omega)) z184) | omega
                · intro z184
                  refine b_152_187 _ _ _ (by first | assumption | (exact mL_get (by decide)) | (rw [mL_len]; decide) | (simp only [mL_set]; exact mL_get (by decide)) | (simp only [mL_set, mL_len]; decide) | (exact va_eq) | (exact (va_ne (by omega)).trans (by assumption)) | (exact (va_ne (by omega)).trans va_eq) | (exact (va_ne (by omega)).trans ((va_ne (by omega)).trans (by assumption))) | (exact (va_ne (by omega)).trans ((va_ne (by omega)).trans ((va_ne (by omega)).trans (by assumption)))) | rfl | (exact Or.inl rfl) | (exact Or.inr rfl) | omega | (exact Nat.le_of_ble_eq_true rfl) | decide | (exact ⟨by decide, rfl, by decide⟩)) (by first | assumption | (exact mL_get (by decide)) | (rw [mL_len]; decide) | (simp only [mL_set]; exact mL_get (by decide)) | (simp only [mL_set, mL_len]; decide) | (exact va_eq) | (exact (va_ne (by omega)).trans (by assumption)) | (exact (va_ne (by omega)).trans va_eq) | (exact (va_ne (by omega)).trans ((va_ne (by omega)).trans (by assumption))) | (exact (va_ne (by omega)).trans ((va_ne (by omega)).trans ((va_ne (by omega)).trans (by assumption)))) | rfl | (exact Or.inl rfl) | (exact Or.inr rfl) | omega | (exact Nat.le_of_ble_eq_true rfl) | decide | (exact ⟨by decide, rfl, by decide⟩)) ?_
                  refine sq_pt (e := e + 11) (z0 := z) (σ0 := σ) hn (by omega) (by omega) IHE ih hz3 h403 ((hg1.trans hg2).trans hg3) hA3 hop6 (fun z4 σ4 hok4 h404 hz4 hg4 hr4 hm4 => ?_) (fun z4 w hbad he0 => ?_)
                  · have q505 := hz4.1.1
                    rw [hok4] at hsp
                    refine b_152_192 _ _ _ ?_ ?_
                    · intro z192
                      first | (exact absurd z192 (by decide)) | (exact absurd (by decide) z192) | (exact absurd rfl z192) | (exact absurd z192 (of_nn (by omega))) | (exact absurd (of_np (by omega)) z192) | omega
                    · intro z192
                      refine b_152_195 _ _ _ ?_
                      refine b_152_200 _ _ _ (by first | assumption | (exact mL_get (by decide)) | (rw [mL_len]; decide) | (simp only [mL_set]; exact mL_get (by decide)) | (simp only [mL_set, mL_len]; decide) | (exact va_eq) | (exact (va_ne (by omega)).trans (by assumption)) | (exact (va_ne (by omega)).trans va_eq) | (exact (va_ne (by omega)).trans ((va_ne (by omega)).trans (by assumption))) | (exact (va_ne (by omega)).trans ((va_ne (by omega)).trans ((va_ne (by omega)).trans (by assumption)))) | rfl | (exact Or.inl rfl) | (exact Or.inr rfl) | omega | (exact Nat.le_of_ble_eq_true rfl) | decide | (exact ⟨by decide, rfl, by decide⟩)) (by first | assumption | (exact mL_get (by decide)) | (rw [mL_len]; decide) | (simp only [mL_set]; exact mL_get (by decide)) | (simp only [mL_set, mL_len]; decide) | (exact va_eq) | (exact (va_ne (by omega)).trans (by assumption)) | (exact (va_ne (by omega)).trans va_eq) | (exact (va_ne (by omega)).trans ((va_ne (by omega)).trans (by assumption))) | (exact (va_ne (by omega)).trans ((va_ne (by omega)).trans ((va_ne (by omega)).trans (by assumption)))) | rfl | (exact Or.inl rfl) | (exact Or.inr rfl) | omega | (exact Nat.le_of_ble_eq_true rfl) | decide | (exact ⟨by decide, rfl, by decide⟩)) (by first | assumption | (exact mL_get (by decide)) | (rw [mL_len]; decide) | (simp only [mL_set]; exact mL_get (by decide)) | (simp only [mL_set, mL_len]; decide) | (exact va_eq) | (exact (va_ne (by omega)).trans (by assumption)) | (exact (va_ne (by omega)).trans va_eq) | (exact (va_ne (by omega)).trans ((va_ne (by omega)).trans (by assumption))) | (exact (va_ne (by omega)).trans ((va_ne (by omega)).trans ((va_ne (by omega)).trans (by assumption)))) | rfl | (exact Or.inl rfl) | (exact Or.inr rfl) | omega | (exact Nat.le_of_ble_eq_true rfl) | decide | (exact ⟨by decide, rfl, by decide⟩)) (by first | assumption | (exact mL_get (by decide)) | (rw [mL_len]; decide) | (simp only [mL_set]; exact mL_get (by decide)) | (simp only [mL_set, mL_len]; decide) | (exact va_eq) | (exact (va_ne (by omega)).trans (by assumption)) | (exact (va_ne (by omega)).trans va_eq) | (exact (va_ne (by omega)).trans ((va_ne (by omega)).trans (by assumption))) | (exact (va_ne (by omega)).trans ((va_ne (by omega)).trans ((va_ne (by omega)).trans (by assumption)))) | rfl | (exact Or.inl rfl) | (exact Or.inr rfl) | omega | (exact Nat.le_of_ble_eq_true rfl) | decide | (exact ⟨by decide, rfl, by decide⟩)) (by first | assumption | (exact mL_get (by decide)) | (rw [mL_len]; decide) | (simp only [mL_set]; exact mL_get (by decide)) | (simp only [mL_set, mL_len]; decide) | (exact va_eq) | (exact (va_ne (by omega)).trans (by assumption)) | (exact (va_ne (by omega)).trans va_eq) | (exact (va_ne (by omega)).trans ((va_ne (by omega)).trans (by assumption))) | (exact (va_ne (by omega)).trans ((va_ne (by omega)).trans ((va_ne (by omega)).trans (by assumption)))) | rfl | (exact Or.inl rfl) | (exact Or.inr rfl) | omega | (exact Nat.le_of_ble_eq_true rfl) | decide | (exact ⟨by decide, rfl, by decide⟩)) (by first | assumption | (exact mL_get (by decide)) | (rw [mL_len]; decide) | (simp only [mL_set]; exact mL_get (by decide)) | (simp only [mL_set, mL_len]; decide) | (exact va_eq) | (exact (va_ne (by omega)).trans (by assumption)) | (exact (va_ne (by omega)).trans va_eq) | (exact (va_ne (by omega)).trans ((va_ne (by omega)).trans (by assumption))) | (exact (va_ne (by omega)).trans ((va_ne (by omega)).trans ((va_ne (by omega)).trans (by assumption)))) | rfl | (exact Or.inl rfl) | (exact Or.inr rfl) | omega | (exact Nat.le_of_ble_eq_true rfl) | decide | (exact ⟨by decide, rfl, by decide⟩)) ?_ ?_
                      · intro z200
                        first | (exact absurd z200 (by decide)) | (exact absurd (by decide) z200) | (exact absurd rfl z200) | (exact absurd z200 (of_nn (by omega))) | (exact absurd (of_np (by omega)) z200) | omega
                      · intro z200
                        show mi_W _ _ _ _ _ (n, sl, (mr_x22 (z4.X 22 - 1) z4 s).f) _
                        have h22 : z4.X 22 = _ := hz4.2.2.2.2.2.1.1
                        have hz5 := mr_x22_st (v := z4.X 22 - 1) (j := j' + 1) hz4 (by rw [h22, show (1 : Int32) = Int32.ofNat 1 from rfl, of_sub' (by omega), show 100 - j' - 1 = 100 - (j' + 1) by omega]) (by omega)
                        have hg5 := hg4.x22 (v := z4.X 22 - 1) (s := s)
                        have hr5 : mr_rg σ.n σ4.n (mr_x22 (z4.X 22 - 1) z4 s) σ4 := hr4.to (fun _ _ _ => mr_x22_kp) (fun _ _ _ => rfl)
                        refine b_152_215 _ _ _ ?_
                        refine b_152_220 _ _ _ ?_
                        exact ok _ σ4 hsp h404 hz5 hg5 hr5 hm4
                  · have q505 := he0.1.1
                    have hbadF : ms_bad (ms_C g L (j' + 1) σ) w := by rw [hsp]; exact hbad
                    refine b_152_192 _ _ _ ?_ ?_
                    · intro z192
                      refine b_152_199 _ _ _ ?_
                      refine b_152_200 _ _ _ (by first | assumption | (exact mL_get (by decide)) | (rw [mL_len]; decide) | (simp only [mL_set]; exact mL_get (by decide)) | (simp only [mL_set, mL_len]; decide) | (exact va_eq) | (exact (va_ne (by omega)).trans (by assumption)) | (exact (va_ne (by omega)).trans va_eq) | (exact (va_ne (by omega)).trans ((va_ne (by omega)).trans (by assumption))) | (exact (va_ne (by omega)).trans ((va_ne (by omega)).trans ((va_ne (by omega)).trans (by assumption)))) | rfl | (exact Or.inl rfl) | (exact Or.inr rfl) | omega | (exact Nat.le_of_ble_eq_true rfl) | decide | (exact ⟨by decide, rfl, by decide⟩)) (by first | assumption | (exact mL_get (by decide)) | (rw [mL_len]; decide) | (simp only [mL_set]; exact mL_get (by decide)) | (simp only [mL_set, mL_len]; decide) | (exact va_eq) | (exact (va_ne (by omega)).trans (by assumption)) | (exact (va_ne (by omega)).trans va_eq) | (exact (va_ne (by omega)).trans ((va_ne (by omega)).trans (by assumption))) | (exact (va_ne (by omega)).trans ((va_ne (by omega)).trans ((va_ne (by omega)).trans (by assumption)))) | rfl | (exact Or.inl rfl) | (exact Or.inr rfl) | omega | (exact Nat.le_of_ble_eq_true rfl) | decide | (exact ⟨by decide, rfl, by decide⟩)) (by first | assumption | (exact mL_get (by decide)) | (rw [mL_len]; decide) | (simp only [mL_set]; exact mL_get (by decide)) | (simp only [mL_set, mL_len]; decide) | (exact va_eq) | (exact (va_ne (by omega)).trans (by assumption)) | (exact (va_ne (by omega)).trans va_eq) | (exact (va_ne (by omega)).trans ((va_ne (by omega)).trans (by assumption))) | (exact (va_ne (by omega)).trans ((va_ne (by omega)).trans ((va_ne (by omega)).trans (by assumption)))) | rfl | (exact Or.inl rfl) | (exact Or.inr rfl) | omega | (exact Nat.le_of_ble_eq_true rfl) | decide | (exact ⟨by decide, rfl, by decide⟩)) (by first | assumption | (exact mL_get (by decide)) | (rw [mL_len]; decide) | (simp only [mL_set]; exact mL_get (by decide)) | (simp only [mL_set, mL_len]; decide) | (exact va_eq) | (exact (va_ne (by omega)).trans (by assumption)) | (exact (va_ne (by omega)).trans va_eq) | (exact (va_ne (by omega)).trans ((va_ne (by omega)).trans (by assumption))) | (exact (va_ne (by omega)).trans ((va_ne (by omega)).trans ((va_ne (by omega)).trans (by assumption)))) | rfl | (exact Or.inl rfl) | (exact Or.inr rfl) | omega | (exact Nat.le_of_ble_eq_true rfl) | decide | (exact ⟨by decide, rfl, by decide⟩)) (by first | assumption | (exact mL_get (by decide)) | (rw [mL_len]; decide) | (simp only [mL_set]; exact mL_get (by decide)) | (simp only [mL_set, mL_len]; decide) | (exact va_eq) | (exact (va_ne (by omega)).trans (by assumption)) | (exact (va_ne (by omega)).trans va_eq) | (exact (va_ne (by omega)).trans ((va_ne (by omega)).trans (by assumption))) | (exact (va_ne (by omega)).trans ((va_ne (by omega)).trans ((va_ne (by omega)).trans (by assumption)))) | rfl | (exact Or.inl rfl) | (exact Or.inr rfl) | omega | (exact Nat.le_of_ble_eq_true rfl) | decide | (exact ⟨by decide, rfl, by decide⟩)) (by first | assumption | (exact mL_get (by decide)) | (rw [mL_len]; decide) | (simp only [mL_set]; exact mL_get (by decide)) | (simp only [mL_set, mL_len]; decide) | (exact va_eq) | (exact (va_ne (by omega)).trans (by assumption)) | (exact (va_ne (by omega)).trans va_eq) | (exact (va_ne (by omega)).trans ((va_ne (by omega)).trans (by assumption))) | (exact (va_ne (by omega)).trans ((va_ne (by omega)).trans ((va_ne (by omega)).trans (by assumption)))) | rfl | (exact Or.inl rfl) | (exact Or.inr rfl) | omega | (exact Nat.le_of_ble_eq_true rfl) | decide | (exact ⟨by decide, rfl, by decide⟩)) ?_ ?_
                      · intro z200
                        first
                          | (show mi_W _ _ _ _ _ (n, sl, (mr_x22 (z4.X 22 - 1) z4 s).f) _; have he0 := mr_x22_er (v := z4.X 22 - 1) he0)
                          | (show mi_W _ _ _ _ _ (n, sl, (mr_x22 (z3.X 22 - 1) z3 s).f) _; have he0 := mr_x22_er (v := z3.X 22 - 1) he0)
                          | (show mi_W _ _ _ _ _ (n, sl, (mr_x22 (z2.X 22 - 1) z2 s).f) _; have he0 := mr_x22_er (v := z2.X 22 - 1) he0)
                        refine b_152_219 _ _ _ ?_
                        refine b_152_220 _ _ _ ?_
                        exact er _ _ hbadF he0
                      · intro z200
                        first | (exact absurd z200 (by decide)) | (exact absurd (by decide) z200) | (exact absurd rfl z200) | (exact absurd z200 (of_nn (by omega))) | (exact absurd (of_np (by omega)) z200) | omega
                    · intro z192
                      first | (exact absurd z192 (by decide)) | (exact absurd (by decide) z192) | (exact absurd rfl z192) | (exact absurd z192 (of_nn (by omega))) | (exact absurd (of_np (by omega)) z192) | omega
              · have q505 := he.1.1
                have hbadF : ms_bad (ms_C g L (j' + 1) σ) (σ.add.nx g L).t.a := by rw [hsp]; exact ms_pt_bad h403 hop6
                have he0 := (hg1.trans hg2).er he
                refine b_152_184 _ _ _ ?_ ?_
                · intro z184
                  refine b_152_199 _ _ _ ?_
                  refine b_152_200 _ _ _ (by first | assumption | (exact mL_get (by decide)) | (rw [mL_len]; decide) | (simp only [mL_set]; exact mL_get (by decide)) | (simp only [mL_set, mL_len]; decide) | (exact va_eq) | (exact (va_ne (by omega)).trans (by assumption)) | (exact (va_ne (by omega)).trans va_eq) | (exact (va_ne (by omega)).trans ((va_ne (by omega)).trans (by assumption))) | (exact (va_ne (by omega)).trans ((va_ne (by omega)).trans ((va_ne (by omega)).trans (by assumption)))) | rfl | (exact Or.inl rfl) | (exact Or.inr rfl) | omega | (exact Nat.le_of_ble_eq_true rfl) | decide | (exact ⟨by decide, rfl, by decide⟩)) (by first | assumption | (exact mL_get (by decide)) | (rw [mL_len]; decide) | (simp only [mL_set]; exact mL_get (by decide)) | (simp only [mL_set, mL_len]; decide) | (exact va_eq) | (exact (va_ne (by omega)).trans (by assumption)) | (exact (va_ne (by omega)).trans va_eq) | (exact (va_ne (by omega)).trans ((va_ne (by omega)).trans (by assumption))) | (exact (va_ne (by omega)).trans ((va_ne (by omega)).trans ((va_ne (by omega)).trans (by assumption)))) | rfl | (exact Or.inl rfl) | (exact Or.inr rfl) | omega | (exact Nat.le_of_ble_eq_true rfl) | decide | (exact ⟨by decide, rfl, by decide⟩)) (by first | assumption | (exact mL_get (by decide)) | (rw [mL_len]; decide) | (simp only [mL_set]; exact mL_get (by decide)) | (simp only [mL_set, mL_len]; decide) | (exact va_eq) | (exact (va_ne (by omega)).trans (by assumption)) | (exact (va_ne (by omega)).trans va_eq) | (exact (va_ne (by omega)).trans ((va_ne (by omega)).trans (by assumption))) | (exact (va_ne (by omega)).trans ((va_ne (by omega)).trans ((va_ne (by omega)).trans (by assumption)))) | rfl | (exact Or.inl rfl) | (exact Or.inr rfl) | omega | (exact Nat.le_of_ble_eq_true rfl) | decide | (exact ⟨by decide, rfl, by decide⟩)) (by first | assumption | (exact mL_get (by decide)) | (rw [mL_len]; decide) | (simp only [mL_set]; exact mL_get (by decide)) | (simp only [mL_set, mL_len]; decide) | (exact va_eq) | (exact (va_ne (by omega)).trans (by assumption)) | (exact (va_ne (by omega)).trans va_eq) | (exact (va_ne (by omega)).trans ((va_ne (by omega)).trans (by assumption))) | (exact (va_ne (by omega)).trans ((va_ne (by omega)).trans ((va_ne (by omega)).trans (by assumption)))) | rfl | (exact Or.inl rfl) | (exact Or.inr rfl) | omega | (exact Nat.le_of_ble_eq_true rfl) | decide | (exact ⟨by decide, rfl, by decide⟩)) (by first | assumption | (exact mL_get (by decide)) | (rw [mL_len]; decide) | (simp only [mL_set]; exact mL_get (by decide)) | (simp only [mL_set, mL_len]; decide) | (exact va_eq) | (exact (va_ne (by omega)).trans (by assumption)) | (exact (va_ne (by omega)).trans va_eq) | (exact (va_ne (by omega)).trans ((va_ne (by omega)).trans (by assumption))) | (exact (va_ne (by omega)).trans ((va_ne (by omega)).trans ((va_ne (by omega)).trans (by assumption)))) | rfl | (exact Or.inl rfl) | (exact Or.inr rfl) | omega | (exact Nat.le_of_ble_eq_true rfl) | decide | (exact ⟨by decide, rfl, by decide⟩)) (by first | assumption | (exact mL_get (by decide)) | (rw [mL_len]; decide) | (simp only [mL_set]; exact mL_get (by decide)) | (simp only [mL_set, mL_len]; decide) | (exact va_eq) | (exact (va_ne (by omega)).trans (by assumption)) | (exact (va_ne (by omega)).trans va_eq) | (exact (va_ne (by omega)).trans ((va_ne (by omega)).trans (by assumption))) | (exact (va_ne (by omega)).trans ((va_ne (by omega)).trans ((va_ne (by omega)).trans (by assumption)))) | rfl | (exact Or.inl rfl) | (exact Or.inr rfl) | omega | (exact Nat.le_of_ble_eq_true rfl) | decide | (exact ⟨by decide, rfl, by decide⟩)) ?_ ?_
                  · intro z200
                    first
                      | (show mi_W _ _ _ _ _ (n, sl, (mr_x22 (z4.X 22 - 1) z4 s).f) _; have he0 := mr_x22_er (v := z4.X 22 - 1) he0)
                      | (show mi_W _ _ _ _ _ (n, sl, (mr_x22 (z3.X 22 - 1) z3 s).f) _; have he0 := mr_x22_er (v := z3.X 22 - 1) he0)
                      | (show mi_W _ _ _ _ _ (n, sl, (mr_x22 (z2.X 22 - 1) z2 s).f) _; have he0 := mr_x22_er (v := z2.X 22 - 1) he0)
                    refine b_152_219 _ _ _ ?_
                    refine b_152_220 _ _ _ ?_
                    exact er _ _ hbadF he0
                  · intro z200
                    first | (exact absurd z200 (by decide)) | (exact absurd (by decide) z200) | (exact absurd rfl z200) | (exact absurd z200 (of_nn (by omega))) | (exact absurd (of_np (by omega)) z200) | omega
                · intro z184
                  first | (exact absurd z184 (by decide)) | (exact absurd (by decide) z184) | (exact absurd rfl z184) | (exact absurd z184 (of_nn (by omega))) | (exact absurd (of_np (by omega)) z184) | omega
          · have q505 := he.1.1
            have hbadF : ms_bad (ms_C g L (j' + 1) σ) σ.t.a := by rw [hsp, if_pos h8]; exact rfl
            have he0 := hg1.er he
            refine b_152_175 _ _ _ ?_ ?_
            · intro z175
              refine b_152_199 _ _ _ ?_
              refine b_152_200 _ _ _ (by first | assumption | (exact mL_get (by decide)) | (rw [mL_len]; decide) | (simp only [mL_set]; exact mL_get (by decide)) | (simp only [mL_set, mL_len]; decide) | (exact va_eq) | (exact (va_ne (by omega)).trans (by assumption)) | (exact (va_ne (by omega)).trans va_eq) | (exact (va_ne (by omega)).trans ((va_ne (by omega)).trans (by assumption))) | (exact (va_ne (by omega)).trans ((va_ne (by omega)).trans ((va_ne (by omega)).trans (by assumption)))) | rfl | (exact Or.inl rfl) | (exact Or.inr rfl) | omega | (exact Nat.le_of_ble_eq_true rfl) | decide | (exact ⟨by decide, rfl, by decide⟩)) (by first | assumption | (exact mL_get (by decide)) | (rw [mL_len]; decide) | (simp only [mL_set]; exact mL_get (by decide)) | (simp only [mL_set, mL_len]; decide) | (exact va_eq) | (exact (va_ne (by omega)).trans (by assumption)) | (exact (va_ne (by omega)).trans va_eq) | (exact (va_ne (by omega)).trans ((va_ne (by omega)).trans (by assumption))) | (exact (va_ne (by omega)).trans ((va_ne (by omega)).trans ((va_ne (by omega)).trans (by assumption)))) | rfl | (exact Or.inl rfl) | (exact Or.inr rfl) | omega | (exact Nat.le_of_ble_eq_true rfl) | decide | (exact ⟨by decide, rfl, by decide⟩)) (by first | assumption | (exact mL_get (by decide)) | (rw [mL_len]; decide) | (simp only [mL_set]; exact mL_get (by decide)) | (simp only [mL_set, mL_len]; decide) | (exact va_eq) | (exact (va_ne (by omega)).trans (by assumption)) | (exact (va_ne (by omega)).trans va_eq) | (exact (va_ne (by omega)).trans ((va_ne (by omega)).trans (by assumption))) | (exact (va_ne (by omega)).trans ((va_ne (by omega)).trans ((va_ne (by omega)).trans (by assumption)))) | rfl | (exact Or.inl rfl) | (exact Or.inr rfl) | omega | (exact Nat.le_of_ble_eq_true rfl) | decide | (exact ⟨by decide, rfl, by decide⟩)) (by first | assumption | (exact mL_get (by decide)) | (rw [mL_len]; decide) | (simp only [mL_set]; exact mL_get (by decide)) | (simp only [mL_set, mL_len]; decide) | (exact va_eq) | (exact (va_ne (by omega)).trans (by assumption)) | (exact (va_ne (by omega)).trans va_eq) | (exact (va_ne (by omega)).trans ((va_ne (by omega)).trans (by assumption))) | (exact (va_ne (by omega)).trans ((va_ne (by omega)).trans ((va_ne (by omega)).trans (by assumption)))) | rfl | (exact Or.inl rfl) | (exact Or.inr rfl) | omega | (exact Nat.le_of_ble_eq_true rfl) | decide | (exact ⟨by decide, rfl, by decide⟩)) (by first | assumption | (exact mL_get (by decide)) | (rw [mL_len]; decide) | (simp only [mL_set]; exact mL_get (by decide)) | (simp only [mL_set, mL_len]; decide) | (exact va_eq) | (exact (va_ne (by omega)).trans (by assumption)) | (exact (va_ne (by omega)).trans va_eq) | (exact (va_ne (by omega)).trans ((va_ne (by omega)).trans (by assumption))) | (exact (va_ne (by omega)).trans ((va_ne (by omega)).trans ((va_ne (by omega)).trans (by assumption)))) | rfl | (exact Or.inl rfl) | (exact Or.inr rfl) | omega | (exact Nat.le_of_ble_eq_true rfl) | decide | (exact ⟨by decide, rfl, by decide⟩)) (by first | assumption | (exact mL_get (by decide)) | (rw [mL_len]; decide) | (simp only [mL_set]; exact mL_get (by decide)) | (simp only [mL_set, mL_len]; decide) | (exact va_eq) | (exact (va_ne (by omega)).trans (by assumption)) | (exact (va_ne (by omega)).trans va_eq) | (exact (va_ne (by omega)).trans ((va_ne (by omega)).trans (by assumption))) | (exact (va_ne (by omega)).trans ((va_ne (by omega)).trans ((va_ne (by omega)).trans (by assumption)))) | rfl | (exact Or.inl rfl) | (exact Or.inr rfl) | omega | (exact Nat.le_of_ble_eq_true rfl) | decide | (exact ⟨by decide, rfl, by decide⟩)) ?_ ?_
              · intro z200
                first
                  | (show mi_W _ _ _ _ _ (n, sl, (mr_x22 (z4.X 22 - 1) z4 s).f) _; have he0 := mr_x22_er (v := z4.X 22 - 1) he0)
                  | (show mi_W _ _ _ _ _ (n, sl, (mr_x22 (z3.X 22 - 1) z3 s).f) _; have he0 := mr_x22_er (v := z3.X 22 - 1) he0)
                  | (show mi_W _ _ _ _ _ (n, sl, (mr_x22 (z2.X 22 - 1) z2 s).f) _; have he0 := mr_x22_er (v := z2.X 22 - 1) he0)
                refine b_152_219 _ _ _ ?_
                refine b_152_220 _ _ _ ?_
                exact er _ _ hbadF he0
              · intro z200
                first | (exact absurd z200 (by decide)) | (exact absurd (by decide) z200) | (exact absurd rfl z200) | (exact absurd z200 (of_nn (by omega))) | (exact absurd (of_np (by omega)) z200) | omega
            · intro z175
              first | (exact absurd z175 (by decide)) | (exact absurd (by decide) z175) | (exact absurd rfl z175) | (exact absurd z175 (of_nn (by omega))) | (exact absurd (of_np (by omega)) z175) | omega
        · intro z165
          first | (exact absurd z165 (by decide)) | (exact absurd (by decide) z165) | (exact absurd rfl z165) | (exact absurd z165 (of_nn (by omega))) | (exact absurd (of_np (by omega)) z165) | omega
      · exact absurd hk0 (by omega)
    · intro z7
      first | (exact absurd z7 (by decide)) | (exact absurd (by decide) z7) | (exact absurd rfl z7) | (exact absurd z7 (of_nn (by omega))) | (exact absurd (of_np (by omega)) z7) | omega
theorem sq_C (hn : 575 ≤ n) : ∀ k, mr_IC n sl s g L k := by
  intro k
  induction k with
  | zero => exact sq_C0 hn
  | succ j ih => exact sq_C1 hn (sq_E hn j) ih
end
