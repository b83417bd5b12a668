/-! the second object's reading: a when -/
section
variable {d e n sl j : Nat} {z z0 z1 z2 : mr_Z} {σ σ0 σ1 σ2 : ms_S} {s : Value} {Q : (Option Value ⊕ Nat) → mi_H → Prop} {g : Nat → Int32} {L : Nat}
theorem sq_act {op : Nat} (hn : 575 ≤ n) (hd : j + 16 ≤ e) (hj : j < 100) (IHE : mr_IE n sl s g L j) (hz1 : mr_st n s g L z1 (σ0.add.nx g L) j) (hg0 : mr_go z0 σ0 z1 (σ0.add.nx g L)) (hA : z1.I 509 σ0.n = Int32.ofNat op) (hop : op = 7 ∨ op = 8 ∨ op = 9) (ok : mr_okA n sl s g L Q z0 σ0 j op) (er : mr_erA n sl s g L Q z0 σ0 j op) : mi_W (e + 2) 169 0 (mi_en 4 [.ref 505, .int (Int32.ofNat σ0.n)]) [] (n, sl, z1.f) Q := by
  have hn80 : (σ0.add.nx g L).n ≤ 800 := hz1.2.2.2.2.1.2
  have hn1 : (σ0.add.nx g L).n = σ0.n + 1 := rfl
  have hxm := ix_of (w := σ0.n) (m := 800) (by omega) (by omega)
  have q505 := hz1.1.1
  have qop := hz1.1.2.1 (509, 800) (by decide)
  rcases hop with rfl | rfl | rfl
  · refine b_169_0 _ _ _ _ _ _ (by first | assumption | (exact mL_get (by decide)) | (rw [mL_len]; decide) | (simp only [mL_set]; exact mL_get (by decide)) | (simp only [mL_set, mL_len]; decide) | (exact va_eq) | (exact (va_ne (by omega)).trans (by assumption)) | (exact (va_ne (by omega)).trans va_eq) | (exact (va_ne (by omega)).trans ((va_ne (by omega)).trans (by assumption))) | (exact (va_ne (by omega)).trans ((va_ne (by omega)).trans ((va_ne (by omega)).trans (by assumption)))) | rfl | (exact Or.inl rfl) | (exact Or.inr rfl) | omega | (exact Nat.le_of_ble_eq_true rfl) | decide | (exact ⟨by decide, rfl, by decide⟩)) (by first | assumption | (exact mL_get (by decide)) | (rw [mL_len]; decide) | (simp only [mL_set]; exact mL_get (by decide)) | (simp only [mL_set, mL_len]; decide) | (exact va_eq) | (exact (va_ne (by omega)).trans (by assumption)) | (exact (va_ne (by omega)).trans va_eq) | (exact (va_ne (by omega)).trans ((va_ne (by omega)).trans (by assumption))) | (exact (va_ne (by omega)).trans ((va_ne (by omega)).trans ((va_ne (by omega)).trans (by assumption)))) | rfl | (exact Or.inl rfl) | (exact Or.inr rfl) | omega | (exact Nat.le_of_ble_eq_true rfl) | decide | (exact ⟨by decide, rfl, by decide⟩)) (by first | assumption | (exact mL_get (by decide)) | (rw [mL_len]; decide) | (simp only [mL_set]; exact mL_get (by decide)) | (simp only [mL_set, mL_len]; decide) | (exact va_eq) | (exact (va_ne (by omega)).trans (by assumption)) | (exact (va_ne (by omega)).trans va_eq) | (exact (va_ne (by omega)).trans ((va_ne (by omega)).trans (by assumption))) | (exact (va_ne (by omega)).trans ((va_ne (by omega)).trans ((va_ne (by omega)).trans (by assumption)))) | rfl | (exact Or.inl rfl) | (exact Or.inr rfl) | omega | (exact Nat.le_of_ble_eq_true rfl) | decide | (exact ⟨by decide, rfl, by decide⟩)) (by first | assumption | (exact mL_get (by decide)) | (rw [mL_len]; decide) | (simp only [mL_set]; exact mL_get (by decide)) | (simp only [mL_set, mL_len]; decide) | (exact va_eq) | (exact (va_ne (by omega)).trans (by assumption)) | (exact (va_ne (by omega)).trans va_eq) | (exact (va_ne (by omega)).trans ((va_ne (by omega)).trans (by assumption))) | (exact (va_ne (by omega)).trans ((va_ne (by omega)).trans ((va_ne (by omega)).trans (by assumption)))) | rfl | (exact Or.inl rfl) | (exact Or.inr rfl) | omega | (exact Nat.le_of_ble_eq_true rfl) | decide | (exact ⟨by decide, rfl, by decide⟩)) (by first | assumption | (exact mL_get (by decide)) | (rw [mL_len]; decide) | (simp only [mL_set]; exact mL_get (by decide)) | (simp only [mL_set, mL_len]; decide) | (exact va_eq) | (exact (va_ne (by omega)).trans (by assumption)) | (exact (va_ne (by omega)).trans va_eq) | (exact (va_ne (by omega)).trans ((va_ne (by omega)).trans (by assumption))) | (exact (va_ne (by omega)).trans ((va_ne (by omega)).trans ((va_ne (by omega)).trans (by assumption)))) | rfl | (exact Or.inl rfl) | (exact Or.inr rfl) | omega | (exact Nat.le_of_ble_eq_true rfl) | decide | (exact ⟨by decide, rfl, by decide⟩)) (by first | assumption | (exact mL_get (by decide)) | (rw [mL_len]; decide) | (simp only [mL_set]; exact mL_get (by decide)) | (simp only [mL_set, mL_len]; decide) | (exact va_eq) | (exact (va_ne (by omega)).trans (by assumption)) | (exact (va_ne (by omega)).trans va_eq) | (exact (va_ne (by omega)).trans ((va_ne (by omega)).trans (by assumption))) | (exact (va_ne (by omega)).trans ((va_ne (by omega)).trans ((va_ne (by omega)).trans (by assumption)))) | rfl | (exact Or.inl rfl) | (exact Or.inr rfl) | omega | (exact Nat.le_of_ble_eq_true rfl) | decide | (exact ⟨by decide, rfl, by decide⟩)) ?_ ?_
    · intro h
      exact absurd hA h
    · intro _
      exact sq_a7 hn hd hj IHE hz1 hg0 hA ok er
  · refine b_169_0 _ _ _ _ _ _ (by first | assumption | (exact mL_get (by decide)) | (rw [mL_len]; decide) | (simp only [mL_set]; exact mL_get (by decide)) | (simp only [mL_set, mL_len]; decide) | (exact va_eq) | (exact (va_ne (by omega)).trans (by assumption)) | (exact (va_ne (by omega)).trans va_eq) | (exact (va_ne (by omega)).trans ((va_ne (by omega)).trans (by assumption))) | (exact (va_ne (by omega)).trans ((va_ne (by omega)).trans ((va_ne (by omega)).trans (by assumption)))) | rfl | (exact Or.inl rfl) | (exact Or.inr rfl) | omega | (exact Nat.le_of_ble_eq_true rfl) | decide | (exact ⟨by decide, rfl, by decide⟩)) (by first | assumption | (exact mL_get (by decide)) | (rw [mL_len]; decide) | (simp only [mL_set]; exact mL_get (by decide)) | (simp only [mL_set, mL_len]; decide) | (exact va_eq) | (exact (va_ne (by omega)).trans (by assumption)) | (exact (va_ne (by omega)).trans va_eq) | (exact (va_ne (by omega)).trans ((va_ne (by omega)).trans (by assumption))) | (exact (va_ne (by omega)).trans ((va_ne (by omega)).trans ((va_ne (by omega)).trans (by assumption)))) | rfl | (exact Or.inl rfl) | (exact Or.inr rfl) | omega | (exact Nat.le_of_ble_eq_true rfl) | decide | (exact ⟨by decide, rfl, by decide⟩)) (by first | assumption | (exact mL_get (by decide)) | (rw [mL_len]; decide) | (simp only [mL_set]; exact mL_get (by decide)) | (simp only [mL_set, mL_len]; decide) | (exact va_eq) | (exact (va_ne (by omega)).trans (by assumption)) | (exact (va_ne (by omega)).trans va_eq) | (exact (va_ne (by omega)).trans ((va_ne (by omega)).trans (by assumption))) | (exact (va_ne (by omega)).trans ((va_ne (by omega)).trans ((va_ne (by omega)).trans (by assumption)))) | rfl | (exact Or.inl rfl) | (exact Or.inr rfl) | omega | (exact Nat.le_of_ble_eq_true rfl) | decide | (exact ⟨by decide, rfl, by decide⟩)) (by first | assumption | (exact mL_get (by decide)) | (rw [mL_len]; decide) | (simp only [mL_set]; exact mL_get (by decide)) | (simp only [mL_set, mL_len]; decide) | (exact va_eq) | (exact (va_ne (by omega)).trans (by assumption)) | (exact (va_ne (by omega)).trans va_eq) | (exact (va_ne (by omega)).trans ((va_ne (by omega)).trans (by assumption))) | (exact (va_ne (by omega)).trans ((va_ne (by omega)).trans ((va_ne (by omega)).trans (by assumption)))) | rfl | (exact Or.inl rfl) | (exact Or.inr rfl) | omega | (exact Nat.le_of_ble_eq_true rfl) | decide | (exact ⟨by decide, rfl, by decide⟩)) (by first | assumption | (exact mL_get (by decide)) | (rw [mL_len]; decide) | (simp only [mL_set]; exact mL_get (by decide)) | (simp only [mL_set, mL_len]; decide) | (exact va_eq) | (exact (va_ne (by omega)).trans (by assumption)) | (exact (va_ne (by omega)).trans va_eq) | (exact (va_ne (by omega)).trans ((va_ne (by omega)).trans (by assumption))) | (exact (va_ne (by omega)).trans ((va_ne (by omega)).trans ((va_ne (by omega)).trans (by assumption)))) | rfl | (exact Or.inl rfl) | (exact Or.inr rfl) | omega | (exact Nat.le_of_ble_eq_true rfl) | decide | (exact ⟨by decide, rfl, by decide⟩)) (by first | assumption | (exact mL_get (by decide)) | (rw [mL_len]; decide) | (simp only [mL_set]; exact mL_get (by decide)) | (simp only [mL_set, mL_len]; decide) | (exact va_eq) | (exact (va_ne (by omega)).trans (by assumption)) | (exact (va_ne (by omega)).trans va_eq) | (exact (va_ne (by omega)).trans ((va_ne (by omega)).trans (by assumption))) | (exact (va_ne (by omega)).trans ((va_ne (by omega)).trans ((va_ne (by omega)).trans (by assumption)))) | rfl | (exact Or.inl rfl) | (exact Or.inr rfl) | omega | (exact Nat.le_of_ble_eq_true rfl) | decide | (exact ⟨by decide, rfl, by decide⟩)) ?_ ?_
    · intro _
      refine b_169_73 _ _ _ _ _ _ (by first | assumption | (exact mL_get (by decide)) | (rw [mL_len]; decide) | (simp only [mL_set]; exact mL_get (by decide)) | (simp only [mL_set, mL_len]; decide) | (exact va_eq) | (exact (va_ne (by omega)).trans (by assumption)) | (exact (va_ne (by omega)).trans va_eq) | (exact (va_ne (by omega)).trans ((va_ne (by omega)).trans (by assumption))) | (exact (va_ne (by omega)).trans ((va_ne (by omega)).trans ((va_ne (by omega)).trans (by assumption)))) | rfl | (exact Or.inl rfl) | (exact Or.inr rfl) | omega | (exact Nat.le_of_ble_eq_true rfl) | decide | (exact ⟨by decide, rfl, by decide⟩)) (by first | assumption | (exact mL_get (by decide)) | (rw [mL_len]; decide) | (simp only [mL_set]; exact mL_get (by decide)) | (simp only [mL_set, mL_len]; decide) | (exact va_eq) | (exact (va_ne (by omega)).trans (by assumption)) | (exact (va_ne (by omega)).trans va_eq) | (exact (va_ne (by omega)).trans ((va_ne (by omega)).trans (by assumption))) | (exact (va_ne (by omega)).trans ((va_ne (by omega)).trans ((va_ne (by omega)).trans (by assumption)))) | rfl | (exact Or.inl rfl) | (exact Or.inr rfl) | omega | (exact Nat.le_of_ble_eq_true rfl) | decide | (exact ⟨by decide, rfl, by decide⟩)) (by first | assumption | (exact mL_get (by decide)) | (rw [mL_len]; decide) | (simp only [mL_set]; exact mL_get (by decide)) | (simp only [mL_set, mL_len]; decide) | (exact va_eq) | (exact (va_ne (by omega)).trans (by assumption)) | (exact (va_ne (by omega)).trans va_eq) | (exact (va_ne (by omega)).trans ((va_ne (by omega)).trans (by assumption))) | (exact (va_ne (by omega)).trans ((va_ne (by omega)).trans ((va_ne (by omega)).trans (by assumption)))) | rfl | (exact Or.inl rfl) | (exact Or.inr rfl) | omega | (exact Nat.le_of_ble_eq_true rfl) | decide | (exact ⟨by decide, rfl, by decide⟩)) (by first | assumption | (exact mL_get (by decide)) | (rw [mL_len]; decide) | (simp only [mL_set]; exact mL_get (by decide)) | (simp only [mL_set, mL_len]; decide) | (exact va_eq) | (exact (va_ne (by omega)).trans (by assumption)) | (exact (va_ne (by omega)).trans va_eq) | (exact (va_ne (by omega)).trans ((va_ne (by omega)).trans (by assumption))) | (exact (va_ne (by omega)).trans ((va_ne (by omega)).trans ((va_ne (by omega)).trans (by assumption)))) | rfl | (exact Or.inl rfl) | (exact Or.inr rfl) | omega | (exact Nat.le_of_ble_eq_true rfl) | decide | (exact ⟨by decide, rfl, by decide⟩)) (by first | assumption | (exact mL_get (by decide)) | (rw [mL_len]; decide) | (simp only [mL_set]; exact mL_get (by decide)) | (simp only [mL_set, mL_len]; decide) | (exact va_eq) | (exact (va_ne (by omega)).trans (by assumption)) | (exact (va_ne (by omega)).trans va_eq) | (exact (va_ne (by omega)).trans ((va_ne (by omega)).trans (by assumption))) | (exact (va_ne (by omega)).trans ((va_ne (by omega)).trans ((va_ne (by omega)).trans (by assumption)))) | rfl | (exact Or.inl rfl) | (exact Or.inr rfl) | omega | (exact Nat.le_of_ble_eq_true rfl) | decide | (exact ⟨by decide, rfl, by decide⟩)) (by first | assumption | (exact mL_get (by decide)) | (rw [mL_len]; decide) | (simp only [mL_set]; exact mL_get (by decide)) | (simp only [mL_set, mL_len]; decide) | (exact va_eq) | (exact (va_ne (by omega)).trans (by assumption)) | (exact (va_ne (by omega)).trans va_eq) | (exact (va_ne (by omega)).trans ((va_ne (by omega)).trans (by assumption))) | (exact (va_ne (by omega)).trans ((va_ne (by omega)).trans ((va_ne (by omega)).trans (by assumption)))) | rfl | (exact Or.inl rfl) | (exact Or.inr rfl) | omega | (exact Nat.le_of_ble_eq_true rfl) | decide | (exact ⟨by decide, rfl, by decide⟩)) ?_ ?_
      · intro _
        exact sq_a8 hn hd hj IHE hz1 hg0 hA ok er
      · intro h
        exact absurd (hA.symm.trans (Classical.not_not.mp h)) (by decide)
    · intro h
      exact absurd (hA.symm.trans (Classical.not_not.mp h)) (by decide)
  · refine b_169_0 _ _ _ _ _ _ (by first | assumption | (exact mL_get (by decide)) | (rw [mL_len]; decide) | (simp only [mL_set]; exact mL_get (by decide)) | (simp only [mL_set, mL_len]; decide) | (exact va_eq) | (exact (va_ne (by omega)).trans (by assumption)) | (exact (va_ne (by omega)).trans va_eq) | (exact (va_ne (by omega)).trans ((va_ne (by omega)).trans (by assumption))) | (exact (va_ne (by omega)).trans ((va_ne (by omega)).trans ((va_ne (by omega)).trans (by assumption)))) | rfl | (exact Or.inl rfl) | (exact Or.inr rfl) | omega | (exact Nat.le_of_ble_eq_true rfl) | decide | (exact ⟨by decide, rfl, by decide⟩)) (by first | assumption | (exact mL_get (by decide)) | (rw [mL_len]; decide) | (simp only [mL_set]; exact mL_get (by decide)) | (simp only [mL_set, mL_len]; decide) | (exact va_eq) | (exact (va_ne (by omega)).trans (by assumption)) | (exact (va_ne (by omega)).trans va_eq) | (exact (va_ne (by omega)).trans ((va_ne (by omega)).trans (by assumption))) | (exact (va_ne (by omega)).trans ((va_ne (by omega)).trans ((va_ne (by omega)).trans (by assumption)))) | rfl | (exact Or.inl rfl) | (exact Or.inr rfl) | omega | (exact Nat.le_of_ble_eq_true rfl) | decide | (exact ⟨by decide, rfl, by decide⟩)) (by first | assumption | (exact mL_get (by decide)) | (rw [mL_len]; decide) | (simp only [mL_set]; exact mL_get (by decide)) | (simp only [mL_set, mL_len]; decide) | (exact va_eq) | (exact (va_ne (by omega)).trans (by assumption)) | (exact (va_ne (by omega)).trans va_eq) | (exact (va_ne (by omega)).trans ((va_ne (by omega)).trans (by assumption))) | (exact (va_ne (by omega)).trans ((va_ne (by omega)).trans ((va_ne (by omega)).trans (by assumption)))) | rfl | (exact Or.inl rfl) | (exact Or.inr rfl) | omega | (exact Nat.le_of_ble_eq_true rfl) | decide | (exact ⟨by decide, rfl, by decide⟩)) (by first | assumption | (exact mL_get (by decide)) | (rw [mL_len]; decide) | (simp only [mL_set]; exact mL_get (by decide)) | (simp only [mL_set, mL_len]; decide) | (exact va_eq) | (exact (va_ne (by omega)).trans (by assumption)) | (exact (va_ne (by omega)).trans va_eq) | (exact (va_ne (by omega)).trans ((va_ne (by omega)).trans (by assumption))) | (exact (va_ne (by omega)).trans ((va_ne (by omega)).trans ((va_ne (by omega)).trans (by assumption)))) | rfl | (exact Or.inl rfl) | (exact Or.inr rfl) | omega | (exact Nat.le_of_ble_eq_true rfl) | decide | (exact ⟨by decide, rfl, by decide⟩)) (by first | assumption | (exact mL_get (by decide)) | (rw [mL_len]; decide) | (simp only [mL_set]; exact mL_get (by decide)) | (simp only [mL_set, mL_len]; decide) | (exact va_eq) | (exact (va_ne (by omega)).trans (by assumption)) | (exact (va_ne (by omega)).trans va_eq) | (exact (va_ne (by omega)).trans ((va_ne (by omega)).trans (by assumption))) | (exact (va_ne (by omega)).trans ((va_ne (by omega)).trans ((va_ne (by omega)).trans (by assumption)))) | rfl | (exact Or.inl rfl) | (exact Or.inr rfl) | omega | (exact Nat.le_of_ble_eq_true rfl) | decide | (exact ⟨by decide, rfl, by decide⟩)) (by first | assumption | (exact mL_get (by decide)) | (rw [mL_len]; decide) | (simp only [mL_set]; exact mL_get (by decide)) | (simp only [mL_set, mL_len]; decide) | (exact va_eq) | (exact (va_ne (by omega)).trans (by assumption)) | (exact (va_ne (by omega)).trans va_eq) | (exact (va_ne (by omega)).trans ((va_ne (by omega)).trans (by assumption))) | (exact (va_ne (by omega)).trans ((va_ne (by omega)).trans ((va_ne (by omega)).trans (by assumption)))) | rfl | (exact Or.inl rfl) | (exact Or.inr rfl) | omega | (exact Nat.le_of_ble_eq_true rfl) | decide | (exact ⟨by decide, rfl, by decide⟩)) ?_ ?_
    · intro _
      refine b_169_73 _ _ _ _ _ _ (by first | assumption | (exact mL_get (by decide)) | (rw [mL_len]; decide) | (simp only [mL_set]; exact mL_get (by decide)) | (simp only [mL_set, mL_len]; decide) | (exact va_eq) | (exact (va_ne (by omega)).trans (by assumption)) | (exact (va_ne (by omega)).trans va_eq) | (exact (va_ne (by omega)).trans ((va_ne (by omega)).trans (by assumption))) | (exact (va_ne (by omega)).trans ((va_ne (by omega)).trans ((va_ne (by omega)).trans (by assumption)))) | rfl | (exact Or.inl rfl) | (exact Or.inr rfl) | omega | (exact Nat.le_of_ble_eq_true rfl) | decide | (exact ⟨by decide, rfl, by decide⟩)) (by first | assumption | (exact mL_get (by decide)) | (rw [mL_len]; decide) | (simp only [mL_set]; exact mL_get (by decide)) | (simp only [mL_set, mL_len]; decide) | (exact va_eq) | (exact (va_ne (by omega)).trans (by assumption)) | (exact (va_ne (by omega)).trans va_eq) | (exact (va_ne (by omega)).trans ((va_ne (by omega)).trans (by assumption))) | (exact (va_ne (by omega)).trans ((va_ne (by omega)).trans ((va_ne (by omega)).trans (by assumption)))) | rfl | (exact Or.inl rfl) | (exact Or.inr rfl) | omega | (exact Nat.le_of_ble_eq_true rfl) | decide | (exact ⟨by decide, rfl, by decide⟩)) (by first | assumption | (exact mL_get (by decide)) | (rw [mL_len]; decide) | (simp only [mL_set]; exact mL_get (by decide)) | (simp only [mL_set, mL_len]; decide) | (exact va_eq) | (exact (va_ne (by omega)).trans (by assumption)) | (exact (va_ne (by omega)).trans va_eq) | (exact (va_ne (by omega)).trans ((va_ne (by omega)).trans (by assumption))) | (exact (va_ne (by omega)).trans ((va_ne (by omega)).trans ((va_ne (by omega)).trans (by assumption)))) | rfl | (exact Or.inl rfl) | (exact Or.inr rfl) | omega | (exact Nat.le_of_ble_eq_true rfl) | decide | (exact ⟨by decide, rfl, by decide⟩)) (by first | assumption | (exact mL_get (by decide)) | (rw [mL_len]; decide) | (simp only [mL_set]; exact mL_get (by decide)) | (simp only [mL_set, mL_len]; decide) | (exact va_eq) | (exact (va_ne (by omega)).trans (by assumption)) | (exact (va_ne (by omega)).trans va_eq) | (exact (va_ne (by omega)).trans ((va_ne (by omega)).trans (by assumption))) | (exact (va_ne (by omega)).trans ((va_ne (by omega)).trans ((va_ne (by omega)).trans (by assumption)))) | rfl | (exact Or.inl rfl) | (exact Or.inr rfl) | omega | (exact Nat.le_of_ble_eq_true rfl) | decide | (exact ⟨by decide, rfl, by decide⟩)) (by first | assumption | (exact mL_get (by decide)) | (rw [mL_len]; decide) | (simp only [mL_set]; exact mL_get (by decide)) | (simp only [mL_set, mL_len]; decide) | (exact va_eq) | (exact (va_ne (by omega)).trans (by assumption)) | (exact (va_ne (by omega)).trans va_eq) | (exact (va_ne (by omega)).trans ((va_ne (by omega)).trans (by assumption))) | (exact (va_ne (by omega)).trans ((va_ne (by omega)).trans ((va_ne (by omega)).trans (by assumption)))) | rfl | (exact Or.inl rfl) | (exact Or.inr rfl) | omega | (exact Nat.le_of_ble_eq_true rfl) | decide | (exact ⟨by decide, rfl, by decide⟩)) (by first | assumption | (exact mL_get (by decide)) | (rw [mL_len]; decide) | (simp only [mL_set]; exact mL_get (by decide)) | (simp only [mL_set, mL_len]; decide) | (exact va_eq) | (exact (va_ne (by omega)).trans (by assumption)) | (exact (va_ne (by omega)).trans va_eq) | (exact (va_ne (by omega)).trans ((va_ne (by omega)).trans (by assumption))) | (exact (va_ne (by omega)).trans ((va_ne (by omega)).trans ((va_ne (by omega)).trans (by assumption)))) | rfl | (exact Or.inl rfl) | (exact Or.inr rfl) | omega | (exact Nat.le_of_ble_eq_true rfl) | decide | (exact ⟨by decide, rfl, by decide⟩)) ?_ ?_
      · intro h
        exact absurd hA h
      · intro _
        exact sq_a9 hn hd hj IHE hz1 hg0 hA ok er
    · intro h
      exact absurd (hA.symm.trans (Classical.not_not.mp h)) (by decide)
theorem mr_go.rb {qt mt : Nat} {v : Int32} (h : mr_go z σ z1 σ1) (hq : qt ∈ [509, 510, 511, 512, 513, 514, 515, 516, 529, 530]) (hm : mt < σ.n) : mr_go (mr_w qt mt v z) σ (mr_w qt mt v z1) σ1 := by
  refine ⟨h.1, ⟨h.2.1.1, h.2.1.2.1, fun p hp => ?_, h.2.1.2.2.2.1, fun p hp => ?_⟩, ⟨fun p m hp hm' => ?_, h.2.2.2.1, h.2.2.2.2⟩⟩
  · have hne : ¬ p = qt := by
      have := mr_nodes qt hq
      simp only [List.mem_cons, List.not_mem_nil, or_false] at hq
      omega
    show va_up z1.I qt _ p = va_up z.I qt _ p
    rw [va_ne hne, va_ne hne]
    exact h.2.1.2.2.1 p hp
  · have hne : ¬ p = qt := by
      simp only [List.mem_cons, List.not_mem_nil, or_false] at hq
      unfold mr_far at hp
      omega
    show va_up z1.f qt _ p = va_up z.f qt _ p
    rw [va_ne hne, va_ne hne]
    exact h.2.1.2.2.2.2 p hp
  · by_cases e : p = qt ∧ m = mt
    · rw [e.1, e.2, mr_w_at, mr_w_at]
    · rw [mr_w_ne e, mr_w_ne e]
      exact h.2.2.1 p m hp hm'
theorem mr_go.w0 {qt mt : Nat} {v : Int32} (hT : z.I qt mt = v) (hq : qt ∈ [509, 510, 511, 512, 513, 514, 515, 516, 529, 530]) : mr_go (mr_w qt mt v z) σ z σ := by
  have key : ∀ p m, (mr_w qt mt v z).I p m = z.I p m := by
    intro p m
    by_cases e : p = qt ∧ m = mt
    · rw [e.1, e.2, mr_w_at, hT]
    · rw [mr_w_ne e]
  refine ⟨⟨Nat.le_refl _, Nat.le_refl _, fun _ _ => rfl, fun _ _ => rfl⟩, ⟨fun _ _ => rfl, fun _ _ => rfl, fun p hp => funext fun m => (key p m).symm, fun _ _ => rfl, fun p hp => ?_⟩, ⟨fun p m _ _ => (key p m).symm, fun _ _ => rfl, fun _ _ => ⟨rfl, rfl⟩⟩⟩
  have hne : ¬ p = qt := by
    simp only [List.mem_cons, List.not_mem_nil, or_false] at hq
    unfold mr_far at hp
    omega
  exact (va_ne hne).symm
theorem ms_as_s' {E : Bool → ms_S → ms_R Unit} {C : ms_S → ms_R Unit} {c : Nat} : ms_as g L E C (c + 1) σ = if σ.t.k = ms_kc 52 then .ok (0, σ) else match ms_oa σ.t.k with
    | none => .error σ.t.a
    | some op => if σ.n = 800 then .error σ.t.a else ms_eb (ms_ac g L E op (σ.add.nx g L)) (fun x σ1 => ms_eb (C σ1) (fun _ σ2 => ms_eb (ms_as g L E C c σ2) (fun z σ3 => .ok (σ.n, σ3.set σ.n (x.yz σ1.n z))))) := rfl
theorem mz_ls.tb {tb tb' : Nat → ms_N} {hi hi' lo k : Nat} (hh : hi ≤ hi') (ht : ∀ i, lo ≤ i → i < hi → tb' i = tb i) : ∀ (c p i : Nat), lo ≤ p → mz_ls tb hi (mz_ok tb hi k) c p i → mz_ls tb' hi' (mz_ok tb' hi' k) c p i := fun c p i hp h => mz_ls.to hh (fun s i hi h => mz_ok.to hh ht k s i hi h) ht c p i hp h
theorem mz_ls.tb' {tb tb' : Nat → ms_N} {hi lo k : Nat} (ht : ∀ i, lo ≤ i → i < hi → tb' i = tb i) : ∀ (c p i : Nat), lo ≤ p + 1 → mz_ls tb hi (mz_ok tb hi k) c p i → mz_ls tb' hi (mz_ok tb' hi k) c p i := by
  intro c
  induction c with
  | zero => intro p i _ h; exact h
  | succ c ih =>
    intro p i hp h
    unfold mz_ls at h ⊢
    rcases h with h | ⟨h1, h2, h3, h4, h5, h6, h7, h8⟩
    · exact Or.inl h
    · rw [ht i (by omega) h2]
      exact Or.inr ⟨h1, h2, h3, h4, fun a => ⟨(h5 a).1, mz_ok.to (Nat.le_refl _) ht k _ _ (by have := (h5 a).1; omega) (h5 a).2⟩, ⟨h6.1, mz_ok.to (Nat.le_refl _) ht k _ _ (by have := h6.1; omega) h6.2⟩, h7, ih _ _ (by omega) h8⟩
theorem mr_na.kp {c : ms_N} {m : Nat} (h : mr_na z c m) (hk : mr_kp m z z1) : mr_na z1 c m := by
  unfold mr_na at *
  rw [hk.1 509 (by decide), hk.1 510 (by decide), hk.1 511 (by decide), hk.1 512 (by decide), hk.1 513 (by decide), hk.1 515 (by decide), hk.1 530 (by decide)]
  exact h
theorem mr_na.w {c : ms_N} {m q : Nat} {v : Int32} (h : mr_na z c m) (hq : q ∈ [516, 529, 514]) : mr_na (mr_w q m v z) c m := by
  have hne : ∀ p, ¬ p = q → (mr_w q m v z).I p m = z.I p m := fun p hp => mr_w_ne (fun e => hp e.1)
  simp only [List.mem_cons, List.not_mem_nil, or_false] at hq
  unfold mr_na at *
  rw [hne 509 (by omega), hne 510 (by omega), hne 511 (by omega), hne 512 (by omega), hne 513 (by omega), hne 515 (by omega), hne 530 (by omega)]
  exact h
theorem mr_na.wo {c : ms_N} {m q mt : Nat} {v : Int32} (h : mr_na z c m) (hm : ¬ m = mt) : mr_na (mr_w q mt v z) c m := h.kp (mr_w_kp hm)
theorem mr_na.nr {c : ms_N} {m y zz : Nat} (h : mr_na z c m) (hc : c.1 = 7 ∨ c.1 = 8 ∨ c.1 = 9) (hF : z.I 516 m = Int32.ofNat y) (hB : z.I 529 m = mz_lk zz) : mr_nr z (c.yz y zz) m := by
  obtain ⟨h1, h2, h3, h4, h5, h6, h7⟩ := h
  refine ⟨h1, h2, h3, h4, fun h => ?_, h5, fun h => ?_, fun h => ?_, fun _ => hF, fun h => ?_, fun h => ?_, fun h => ?_, fun _ => hB, h6, h7⟩ <;> (have h' : mz_t _ c.1 = true := h; rcases hc with e | e | e <;> rw [e] at h' <;> exact absurd h' (by decide))
theorem mr_rg_join {lo mid hi : Nat} (h : mr_rg lo mid z σ) (h' : mr_rg mid hi z σ) : mr_rg lo hi z σ := fun m h1 h2 => if e : m < mid then h m h1 e else h' m (by omega) h2
theorem ms_ac_op {op : Nat} {x : ms_N} {E : Bool → ms_S → ms_R Unit} (hop : op = 7 ∨ op = 8 ∨ op = 9) (h : ms_ac g L E op σ = .ok (x, σ1)) : x.1 = op := by
  have key : ∀ {α : Type} {r : ms_R α} {f : α → ms_S → ms_R ms_N}, (∀ a σ y σ', f a σ = .ok (y, σ') → y.1 = op) → ∀ y σ', ms_eb r f = .ok (y, σ') → y.1 = op := by
    intro α r f hf y σ' h
    match r, h with
    | .ok (a, σ), h => exact hf a σ y σ' h
  rcases hop with rfl | rfl | rfl
  · exact key (fun a σ => key (fun b σ => key (fun t σ => key (fun _ σ1 y σ' h => by cases h; rfl)))) x σ1 h
  · exact key (fun a σ => key (fun b σ => key (fun _ σ1 y σ' h => by cases h; rfl))) x σ1 h
  · exact key (fun _ σ1 y σ' h => by cases h; rfl) x σ1 h
def mr_okS (n sl : Nat) (s : Value) (g : Nat → Int32) (L : Nat) (Q : (Option Value ⊕ Nat) → mi_H → Prop) (e m0 j c qt mt : Nat) (z : mr_Z) (σ : ms_S) : Prop := ∀ zz σ' z' (l3 l4 : Int32) (o5 o6 : Option Value), ms_as g L (ms_E g L j) (ms_C g L j) c σ = .ok (zz, σ') → σ'.t.k = ms_kc 52 → mr_st n s g L z' σ' j → mr_go (mr_w qt mt (mz_lk zz) z) σ z' σ' → mr_rg σ.n σ'.n z' σ' → mz_ls σ'.tb σ'.n (mz_ok σ'.tb σ'.n j) c mt zz → mi_W (e + 8) 168 188 [some (.ref 505), some (.int (Int32.ofNat m0)), some (.int l3), some (.int l4), o5, o6] [] (n, sl, z'.f) Q
theorem sq_as {m0 : Nat} (hn : 575 ≤ n) (hd : 4 * j + 17 ≤ e) (hj : j < 100) (IHE : mr_IE n sl s g L j) (IHC : mr_IC n sl s g L j) : ∀ (c : Nat) (z : mr_Z) (σ : ms_S) (i qt mt : Nat) (l3 : Int32) (o5 o6 : Option Value), i + c = 8 → (qt = 514 ∧ mt = m0 ∧ l3 = -1 ∨ qt = 529 ∧ l3 = Int32.ofNat mt) → mt < σ.n → z.I qt mt = -1 → mr_st n s g L z σ j → mr_okS n sl s g L Q e m0 j c qt mt z σ → (∀ z' w, ms_bad (ms_as g L (ms_E g L j) (ms_C g L j) c σ) w → mr_er n s z z' w → Q (.inl (some (.int 0))) (n, sl, z'.f)) → mi_W (e + 8) 168 27 [some (.ref 505), some (.int (Int32.ofNat m0)), some (.int l3), some (.int (Int32.ofNat i)), o5, o6] [] (n, sl, z.f) Q := by
  intro c
  induction c with
  | zero =>
    intro z σ i qt mt l3 o5 o6 hi hv hmt hT hz ok er
    have q505 := hz.1.1
    have h9 := hz.2.2.1.2.2.2.2.1
    obtain rfl : i = 8 := by omega
    have hqt : qt ∈ [509, 510, 511, 512, 513, 514, 515, 516, 529, 530] := by rcases hv with h | h <;> rw [h.1] <;> decide
    have hb : ∀ (l4 l5 : Int32) (hk : ¬ σ.t.k = ms_kc 52), mi_W (e + 8) 168 96 [some (.ref 505), some (.int (Int32.ofNat m0)), some (.int l3), some (.int l4), some (.int l5), o6] [] (n, sl, z.f) Q := by
      intro l4 l5 hk
      refine b_168_96 _ _ _ (by first | assumption | (exact mL_get (by decide)) | (rw [mL_len]; decide) | (simp only [mL_set]; exact mL_get (by decide)) | (simp only [mL_set, mL_len]; decide) | (exact va_eq) | (exact (va_ne (by omega)).trans (by assumption)) | (exact (va_ne (by omega)).trans va_eq) | (exact (va_ne (by omega)).trans ((va_ne (by omega)).trans (by assumption))) | (exact (va_ne (by omega)).trans ((va_ne (by omega)).trans ((va_ne (by omega)).trans (by assumption)))) | rfl | (exact Or.inl rfl) | (exact Or.inr rfl) | omega | (exact Nat.le_of_ble_eq_true rfl) | decide | (exact ⟨by decide, rfl, by decide⟩)) (by first | assumption | (exact mL_get (by decide)) | (rw [mL_len]; decide) | (simp only [mL_set]; exact mL_get (by decide)) | (simp only [mL_set, mL_len]; decide) | (exact va_eq) | (exact (va_ne (by omega)).trans (by assumption)) | (exact (va_ne (by omega)).trans va_eq) | (exact (va_ne (by omega)).trans ((va_ne (by omega)).trans (by assumption))) | (exact (va_ne (by omega)).trans ((va_ne (by omega)).trans ((va_ne (by omega)).trans (by assumption)))) | rfl | (exact Or.inl rfl) | (exact Or.inr rfl) | omega | (exact Nat.le_of_ble_eq_true rfl) | decide | (exact ⟨by decide, rfl, by decide⟩)) (by first | assumption | (exact mL_get (by decide)) | (rw [mL_len]; decide) | (simp only [mL_set]; exact mL_get (by decide)) | (simp only [mL_set, mL_len]; decide) | (exact va_eq) | (exact (va_ne (by omega)).trans (by assumption)) | (exact (va_ne (by omega)).trans va_eq) | (exact (va_ne (by omega)).trans ((va_ne (by omega)).trans (by assumption))) | (exact (va_ne (by omega)).trans ((va_ne (by omega)).trans ((va_ne (by omega)).trans (by assumption)))) | rfl | (exact Or.inl rfl) | (exact Or.inr rfl) | omega | (exact Nat.le_of_ble_eq_true rfl) | decide | (exact ⟨by decide, rfl, by decide⟩)) (by first | assumption | (exact mL_get (by decide)) | (rw [mL_len]; decide) | (simp only [mL_set]; exact mL_get (by decide)) | (simp only [mL_set, mL_len]; decide) | (exact va_eq) | (exact (va_ne (by omega)).trans (by assumption)) | (exact (va_ne (by omega)).trans va_eq) | (exact (va_ne (by omega)).trans ((va_ne (by omega)).trans (by assumption))) | (exact (va_ne (by omega)).trans ((va_ne (by omega)).trans ((va_ne (by omega)).trans (by assumption)))) | rfl | (exact Or.inl rfl) | (exact Or.inr rfl) | omega | (exact Nat.le_of_ble_eq_true rfl) | decide | (exact ⟨by decide, rfl, by decide⟩)) (by first | assumption | (exact mL_get (by decide)) | (rw [mL_len]; decide) | (simp only [mL_set]; exact mL_get (by decide)) | (simp only [mL_set, mL_len]; decide) | (exact va_eq) | (exact (va_ne (by omega)).trans (by assumption)) | (exact (va_ne (by omega)).trans va_eq) | (exact (va_ne (by omega)).trans ((va_ne (by omega)).trans (by assumption))) | (exact (va_ne (by omega)).trans ((va_ne (by omega)).trans ((va_ne (by omega)).trans (by assumption)))) | rfl | (exact Or.inl rfl) | (exact Or.inr rfl) | omega | (exact Nat.le_of_ble_eq_true rfl) | decide | (exact ⟨by decide, rfl, by decide⟩)) ?_
      rw [h9]
      refine sq_bad hn hz (fun z' a1 => ?_)
      refine b_168_104 _ _ _ (by first | assumption | (exact mL_get (by decide)) | (rw [mL_len]; decide) | (simp only [mL_set]; exact mL_get (by decide)) | (simp only [mL_set, mL_len]; decide) | (exact va_eq) | (exact (va_ne (by omega)).trans (by assumption)) | (exact (va_ne (by omega)).trans va_eq) | (exact (va_ne (by omega)).trans ((va_ne (by omega)).trans (by assumption))) | (exact (va_ne (by omega)).trans ((va_ne (by omega)).trans ((va_ne (by omega)).trans (by assumption)))) | rfl | (exact Or.inl rfl) | (exact Or.inr rfl) | omega | (exact Nat.le_of_ble_eq_true rfl) | decide | (exact ⟨by decide, rfl, by decide⟩)) ?_
      refine er z' _ ?_ a1
      show ms_bad (if σ.t.k = ms_kc 52 then _ else _) _
      rw [if_neg hk]
      exact rfl
    refine b_168_27 _ _ _ (by first | assumption | (exact mL_get (by decide)) | (rw [mL_len]; decide) | (simp only [mL_set]; exact mL_get (by decide)) | (simp only [mL_set, mL_len]; decide) | (exact va_eq) | (exact (va_ne (by omega)).trans (by assumption)) | (exact (va_ne (by omega)).trans va_eq) | (exact (va_ne (by omega)).trans ((va_ne (by omega)).trans (by assumption))) | (exact (va_ne (by omega)).trans ((va_ne (by omega)).trans ((va_ne (by omega)).trans (by assumption)))) | rfl | (exact Or.inl rfl) | (exact Or.inr rfl) | omega | (exact Nat.le_of_ble_eq_true rfl) | decide | (exact ⟨by decide, rfl, by decide⟩)) (by first | assumption | (exact mL_get (by decide)) | (rw [mL_len]; decide) | (simp only [mL_set]; exact mL_get (by decide)) | (simp only [mL_set, mL_len]; decide) | (exact va_eq) | (exact (va_ne (by omega)).trans (by assumption)) | (exact (va_ne (by omega)).trans va_eq) | (exact (va_ne (by omega)).trans ((va_ne (by omega)).trans (by assumption))) | (exact (va_ne (by omega)).trans ((va_ne (by omega)).trans ((va_ne (by omega)).trans (by assumption)))) | rfl | (exact Or.inl rfl) | (exact Or.inr rfl) | omega | (exact Nat.le_of_ble_eq_true rfl) | decide | (exact ⟨by decide, rfl, by decide⟩)) ?_
    refine sq_sign hn hz (by decide) (fun hk => ?_) (fun hk => ?_)
    · refine b_168_34 _ _ _ ?_ ?_
      · intro z34
        exact ok 0 σ z _ _ _ _ (by show (if σ.t.k = ms_kc 52 then _ else _) = _; rw [if_pos hk]) hk hz (mr_go.w0 hT hqt) (fun m h1 h2 => absurd h2 (by omega)) rfl
      · intro z34
        first | (exact absurd z34 (by decide)) | (exact absurd (by decide) z34) | (exact absurd rfl z34) | (exact absurd z34 (of_nn (by omega))) | (exact absurd (of_np (by omega)) z34) | omega
    · refine b_168_34 _ _ _ ?_ ?_
      · intro z34
        first | (exact absurd z34 (by decide)) | (exact absurd (by decide) z34) | (exact absurd rfl z34) | (exact absurd z34 (of_nn (by omega))) | (exact absurd (of_np (by omega)) z34) | omega
      · intro z34
        refine b_168_37 _ _ _ (by first | assumption | (exact mL_get (by decide)) | (rw [mL_len]; decide) | (simp only [mL_set]; exact mL_get (by decide)) | (simp only [mL_set, mL_len]; decide) | (exact va_eq) | (exact (va_ne (by omega)).trans (by assumption)) | (exact (va_ne (by omega)).trans va_eq) | (exact (va_ne (by omega)).trans ((va_ne (by omega)).trans (by assumption))) | (exact (va_ne (by omega)).trans ((va_ne (by omega)).trans ((va_ne (by omega)).trans (by assumption)))) | rfl | (exact Or.inl rfl) | (exact Or.inr rfl) | omega | (exact Nat.le_of_ble_eq_true rfl) | decide | (exact ⟨by decide, rfl, by decide⟩)) (by first | assumption | (exact mL_get (by decide)) | (rw [mL_len]; decide) | (simp only [mL_set]; exact mL_get (by decide)) | (simp only [mL_set, mL_len]; decide) | (exact va_eq) | (exact (va_ne (by omega)).trans (by assumption)) | (exact (va_ne (by omega)).trans va_eq) | (exact (va_ne (by omega)).trans ((va_ne (by omega)).trans (by assumption))) | (exact (va_ne (by omega)).trans ((va_ne (by omega)).trans ((va_ne (by omega)).trans (by assumption)))) | rfl | (exact Or.inl rfl) | (exact Or.inr rfl) | omega | (exact Nat.le_of_ble_eq_true rfl) | decide | (exact ⟨by decide, rfl, by decide⟩)) ?_
        refine sq_key hn hz (by decide) (fun hk7 => ?_) (fun hk7 => ?_)
        · refine b_168_43 _ _ _ ?_ ?_
          · intro z43
            first | (exact absurd z43 (by decide)) | (exact absurd (by decide) z43) | (exact absurd rfl z43) | (exact absurd z43 (of_nn (by omega))) | (exact absurd (of_np (by omega)) z43) | omega
          · intro z43
            refine b_168_46 _ _ _ ?_
            refine b_168_80 _ _ _ ?_ ?_
            · intro z80
              first | (exact absurd z80 (by decide)) | (exact absurd (by decide) z80) | (exact absurd rfl z80) | (exact absurd z80 (of_nn (by omega))) | (exact absurd (of_np (by omega)) z80) | omega
            · intro z80
              refine b_168_87 _ _ _ ?_ ?_
              · intro z87
                first | (exact absurd z87 (by decide)) | (exact absurd (by decide) z87) | (exact absurd rfl z87) | (exact absurd z87 (of_nn (by omega))) | (exact absurd (of_np (by omega)) z87) | omega
              · intro z87
                exact hb _ _ hk
        · refine b_168_43 _ _ _ ?_ ?_
          · intro z43
            refine b_168_51 _ _ _ (by first | assumption | (exact mL_get (by decide)) | (rw [mL_len]; decide) | (simp only [mL_set]; exact mL_get (by decide)) | (simp only [mL_set, mL_len]; decide) | (exact va_eq) | (exact (va_ne (by omega)).trans (by assumption)) | (exact (va_ne (by omega)).trans va_eq) | (exact (va_ne (by omega)).trans ((va_ne (by omega)).trans (by assumption))) | (exact (va_ne (by omega)).trans ((va_ne (by omega)).trans ((va_ne (by omega)).trans (by assumption)))) | rfl | (exact Or.inl rfl) | (exact Or.inr rfl) | omega | (exact Nat.le_of_ble_eq_true rfl) | decide | (exact ⟨by decide, rfl, by decide⟩)) (by first | assumption | (exact mL_get (by decide)) | (rw [mL_len]; decide) | (simp only [mL_set]; exact mL_get (by decide)) | (simp only [mL_set, mL_len]; decide) | (exact va_eq) | (exact (va_ne (by omega)).trans (by assumption)) | (exact (va_ne (by omega)).trans va_eq) | (exact (va_ne (by omega)).trans ((va_ne (by omega)).trans (by assumption))) | (exact (va_ne (by omega)).trans ((va_ne (by omega)).trans ((va_ne (by omega)).trans (by assumption)))) | rfl | (exact Or.inl rfl) | (exact Or.inr rfl) | omega | (exact Nat.le_of_ble_eq_true rfl) | decide | (exact ⟨by decide, rfl, by decide⟩)) ?_
            refine sq_key hn hz (by decide) (fun hk8 => ?_) (fun hk8 => ?_)
            · refine b_168_57 _ _ _ ?_ ?_
              · intro z57
                first | (exact absurd z57 (by decide)) | (exact absurd (by decide) z57) | (exact absurd rfl z57) | (exact absurd z57 (of_nn (by omega))) | (exact absurd (of_np (by omega)) z57) | omega
              · intro z57
                refine b_168_60 _ _ _ ?_
                refine b_168_80 _ _ _ ?_ ?_
                · intro z80
                  first | (exact absurd z80 (by decide)) | (exact absurd (by decide) z80) | (exact absurd rfl z80) | (exact absurd z80 (of_nn (by omega))) | (exact absurd (of_np (by omega)) z80) | omega
                · intro z80
                  refine b_168_87 _ _ _ ?_ ?_
                  · intro z87
                    first | (exact absurd z87 (by decide)) | (exact absurd (by decide) z87) | (exact absurd rfl z87) | (exact absurd z87 (of_nn (by omega))) | (exact absurd (of_np (by omega)) z87) | omega
                  · intro z87
                    exact hb _ _ hk
            · refine b_168_57 _ _ _ ?_ ?_
              · intro z57
                refine b_168_65 _ _ _ (by first | assumption | (exact mL_get (by decide)) | (rw [mL_len]; decide) | (simp only [mL_set]; exact mL_get (by decide)) | (simp only [mL_set, mL_len]; decide) | (exact va_eq) | (exact (va_ne (by omega)).trans (by assumption)) | (exact (va_ne (by omega)).trans va_eq) | (exact (va_ne (by omega)).trans ((va_ne (by omega)).trans (by assumption))) | (exact (va_ne (by omega)).trans ((va_ne (by omega)).trans ((va_ne (by omega)).trans (by assumption)))) | rfl | (exact Or.inl rfl) | (exact Or.inr rfl) | omega | (exact Nat.le_of_ble_eq_true rfl) | decide | (exact ⟨by decide, rfl, by decide⟩)) (by first | assumption | (exact mL_get (by decide)) | (rw [mL_len]; decide) | (simp only [mL_set]; exact mL_get (by decide)) | (simp only [mL_set, mL_len]; decide) | (exact va_eq) | (exact (va_ne (by omega)).trans (by assumption)) | (exact (va_ne (by omega)).trans va_eq) | (exact (va_ne (by omega)).trans ((va_ne (by omega)).trans (by assumption))) | (exact (va_ne (by omega)).trans ((va_ne (by omega)).trans ((va_ne (by omega)).trans (by assumption)))) | rfl | (exact Or.inl rfl) | (exact Or.inr rfl) | omega | (exact Nat.le_of_ble_eq_true rfl) | decide | (exact ⟨by decide, rfl, by decide⟩)) ?_
                refine sq_key hn hz (by decide) (fun hk9 => ?_) (fun hk9 => ?_)
                · refine b_168_71 _ _ _ ?_ ?_
                  · intro z71
                    first | (exact absurd z71 (by decide)) | (exact absurd (by decide) z71) | (exact absurd rfl z71) | (exact absurd z71 (of_nn (by omega))) | (exact absurd (of_np (by omega)) z71) | omega
                  · intro z71
                    refine b_168_74 _ _ _ ?_
                    refine b_168_80 _ _ _ ?_ ?_
                    · intro z80
                      first | (exact absurd z80 (by decide)) | (exact absurd (by decide) z80) | (exact absurd rfl z80) | (exact absurd z80 (of_nn (by omega))) | (exact absurd (of_np (by omega)) z80) | omega
                    · intro z80
                      refine b_168_87 _ _ _ ?_ ?_
                      · intro z87
                        first | (exact absurd z87 (by decide)) | (exact absurd (by decide) z87) | (exact absurd rfl z87) | (exact absurd z87 (of_nn (by omega))) | (exact absurd (of_np (by omega)) z87) | omega
                      · intro z87
                        exact hb _ _ hk
                · refine b_168_71 _ _ _ ?_ ?_
                  · intro z71
                    refine b_168_79 _ _ _ ?_
                    refine b_168_80 _ _ _ ?_ ?_
                    · intro z80
                      exact hb _ _ hk
                    · intro z80
                      first | (exact absurd z80 (by decide)) | (exact absurd (by decide) z80) | (exact absurd rfl z80) | (exact absurd z80 (of_nn (by omega))) | (exact absurd (of_np (by omega)) z80) | omega
                  · intro z71
                    first | (exact absurd z71 (by decide)) | (exact absurd (by decide) z71) | (exact absurd rfl z71) | (exact absurd z71 (of_nn (by omega))) | (exact absurd (of_np (by omega)) z71) | omega
              · intro z57
                first | (exact absurd z57 (by decide)) | (exact absurd (by decide) z57) | (exact absurd rfl z57) | (exact absurd z57 (of_nn (by omega))) | (exact absurd (of_np (by omega)) z57) | omega
          · intro z43
            first | (exact absurd z43 (by decide)) | (exact absurd (by decide) z43) | (exact absurd rfl z43) | (exact absurd z43 (of_nn (by omega))) | (exact absurd (of_np (by omega)) z43) | omega
  | succ c ih =>
    intro z σ i qt mt l3 o5 o6 hi hv hmt hT hz ok er
    have q505 := hz.1.1
    have h9 := hz.2.2.1.2.2.2.2.1
    have hn8 := hz.2.2.2.2.1.2
    have hqt : qt ∈ [509, 510, 511, 512, 513, 514, 515, 516, 529, 530] := by rcases hv with h | h <;> rw [h.1] <;> decide
    have hmk : ∀ op, ¬ σ.t.k = ms_kc 52 → ms_oa σ.t.k = some op → (op = 7 ∨ op = 8 ∨ op = 9) → mi_W (e + 8) 168 105 [some (.ref 505), some (.int (Int32.ofNat m0)), some (.int l3), some (.int (Int32.ofNat (i + 1))), some (.int (Int32.ofNat op)), o6] [] (n, sl, z.f) Q := by
      intro op hk hop hop3
      have hs0 : ms_as g L (ms_E g L j) (ms_C g L j) (c + 1) σ = if σ.n = 800 then .error σ.t.a else ms_eb (ms_ac g L (ms_E g L j) op (σ.add.nx g L)) (fun x σ1 => ms_eb (ms_C g L j σ1) (fun _ σ2 => ms_eb (ms_as g L (ms_E g L j) (ms_C g L j) c σ2) (fun z σ3 => .ok (σ.n, σ3.set σ.n (x.yz σ1.n z))))) := by
        rw [ms_as_s', if_neg hk, hop]
      refine b_168_105 _ _ _ (by first | assumption | (exact mL_get (by decide)) | (rw [mL_len]; decide) | (simp only [mL_set]; exact mL_get (by decide)) | (simp only [mL_set, mL_len]; decide) | (exact va_eq) | (exact (va_ne (by omega)).trans (by assumption)) | (exact (va_ne (by omega)).trans va_eq) | (exact (va_ne (by omega)).trans ((va_ne (by omega)).trans (by assumption))) | (exact (va_ne (by omega)).trans ((va_ne (by omega)).trans ((va_ne (by omega)).trans (by assumption)))) | rfl | (exact Or.inl rfl) | (exact Or.inr rfl) | omega | (exact Nat.le_of_ble_eq_true rfl) | decide | (exact ⟨by decide, rfl, by decide⟩)) (by first | assumption | (exact mL_get (by decide)) | (rw [mL_len]; decide) | (simp only [mL_set]; exact mL_get (by decide)) | (simp only [mL_set, mL_len]; decide) | (exact va_eq) | (exact (va_ne (by omega)).trans (by assumption)) | (exact (va_ne (by omega)).trans va_eq) | (exact (va_ne (by omega)).trans ((va_ne (by omega)).trans (by assumption))) | (exact (va_ne (by omega)).trans ((va_ne (by omega)).trans ((va_ne (by omega)).trans (by assumption)))) | rfl | (exact Or.inl rfl) | (exact Or.inr rfl) | omega | (exact Nat.le_of_ble_eq_true rfl) | decide | (exact ⟨by decide, rfl, by decide⟩)) ?_
      refine sq_node hn hz (fun z1 h8 hz1 hg1 hA1 hJ1 hY1 => ?_) (fun z1 h8 he => ?_)
      · have q505 := hz1.1.1
        rw [if_neg h8] at hs0
        have hn1 : σ.add.n = σ.n + 1 := rfl
        refine b_168_111 _ _ _ ?_ ?_
        · intro z111
          first | (exact absurd z111 (by decide)) | (exact absurd (by decide) z111) | (exact absurd rfl z111) | (exact absurd z111 (of_nn (by omega))) | (exact absurd (of_np (by omega)) z111) | omega
        · intro z111
          refine b_168_118 _ _ _ (by first | assumption | (exact mL_get (by decide)) | (rw [mL_len]; decide) | (simp only [mL_set]; exact mL_get (by decide)) | (simp only [mL_set, mL_len]; decide) | (exact va_eq) | (exact (va_ne (by omega)).trans (by assumption)) | (exact (va_ne (by omega)).trans va_eq) | (exact (va_ne (by omega)).trans ((va_ne (by omega)).trans (by assumption))) | (exact (va_ne (by omega)).trans ((va_ne (by omega)).trans ((va_ne (by omega)).trans (by assumption)))) | rfl | (exact Or.inl rfl) | (exact Or.inr rfl) | omega | (exact Nat.le_of_ble_eq_true rfl) | decide | (exact ⟨by decide, rfl, by decide⟩)) (by first | assumption | (exact mL_get (by decide)) | (rw [mL_len]; decide) | (simp only [mL_set]; exact mL_get (by decide)) | (simp only [mL_set, mL_len]; decide) | (exact va_eq) | (exact (va_ne (by omega)).trans (by assumption)) | (exact (va_ne (by omega)).trans va_eq) | (exact (va_ne (by omega)).trans ((va_ne (by omega)).trans (by assumption))) | (exact (va_ne (by omega)).trans ((va_ne (by omega)).trans ((va_ne (by omega)).trans (by assumption)))) | rfl | (exact Or.inl rfl) | (exact Or.inr rfl) | omega | (exact Nat.le_of_ble_eq_true rfl) | decide | (exact ⟨by decide, rfl, by decide⟩)) ?_
          refine sq_next hn hz1 (fun z2 h402 hz2 hg2 hI2 hJ2 => ?_) (fun z2 h402 he => ?_)
          · have q505 := hz2.1.1
            have hA2 : z2.I 509 σ.n = Int32.ofNat op := by rw [hI2]; exact hA1
            refine b_168_122 _ _ _ ?_ ?_
            · intro z122
              first | (exact absurd z122 (by decide)) | (exact absurd (by decide) z122) | (exact absurd rfl z122) | (exact absurd z122 (of_nn (by omega))) | (exact absurd (of_np (by omega)) z122) | omega
            · intro z122
              refine b_168_125 _ _ _ (by first | assumption | (exact mL_get (by decide)) | (rw [mL_len]; decide) | (simp only [mL_set]; exact mL_get (by decide)) | (simp only [mL_set, mL_len]; decide) | (exact va_eq) | (exact (va_ne (by omega)).trans (by assumption)) | (exact (va_ne (by omega)).trans va_eq) | (exact (va_ne (by omega)).trans ((va_ne (by omega)).trans (by assumption))) | (exact (va_ne (by omega)).trans ((va_ne (by omega)).trans ((va_ne (by omega)).trans (by assumption)))) | rfl | (exact Or.inl rfl) | (exact Or.inr rfl) | omega | (exact Nat.le_of_ble_eq_true rfl) | decide | (exact ⟨by decide, rfl, by decide⟩)) (by first | assumption | (exact mL_get (by decide)) | (rw [mL_len]; decide) | (simp only [mL_set]; exact mL_get (by decide)) | (simp only [mL_set, mL_len]; decide) | (exact va_eq) | (exact (va_ne (by omega)).trans (by assumption)) | (exact (va_ne (by omega)).trans va_eq) | (exact (va_ne (by omega)).trans ((va_ne (by omega)).trans (by assumption))) | (exact (va_ne (by omega)).trans ((va_ne (by omega)).trans ((va_ne (by omega)).trans (by assumption)))) | rfl | (exact Or.inl rfl) | (exact Or.inr rfl) | omega | (exact Nat.le_of_ble_eq_true rfl) | decide | (exact ⟨by decide, rfl, by decide⟩)) ?_
              refine sq_act (e := e + 5) (z0 := z) hn (by omega) hj IHE hz2 (hg1.trans hg2) hA2 hop3 (fun z3 x σ1 hok3 h403 hz3 hg3 hr3 hna3 hmz3 hlt3 => ?_) (fun z3 w hbad3 he => ?_)
              · have q505 := hz3.1.1
                have hn3 := hz3.2.2.2.2.1.2
                rw [hok3, ms_eb_ok] at hs0
                refine b_168_131 _ _ _ ?_ ?_
                · intro z131
                  first | (exact absurd z131 (by decide)) | (exact absurd (by decide) z131) | (exact absurd rfl z131) | (exact absurd z131 (of_nn (by omega))) | (exact absurd (of_np (by omega)) z131) | omega
                · intro z131
                  have qFO := hz3.1.2.1 (516, 800) (by decide)
                  have hxm := ix_of (w := σ.n) (m := 800) (by omega) (by omega)
                  refine b_168_134 _ _ _ (by first | assumption | (exact mL_get (by decide)) | (rw [mL_len]; decide) | (simp only [mL_set]; exact mL_get (by decide)) | (simp only [mL_set, mL_len]; decide) | (exact va_eq) | (exact (va_ne (by omega)).trans (by assumption)) | (exact (va_ne (by omega)).trans va_eq) | (exact (va_ne (by omega)).trans ((va_ne (by omega)).trans (by assumption))) | (exact (va_ne (by omega)).trans ((va_ne (by omega)).trans ((va_ne (by omega)).trans (by assumption)))) | rfl | (exact Or.inl rfl) | (exact Or.inr rfl) | omega | (exact Nat.le_of_ble_eq_true rfl) | decide | (exact ⟨by decide, rfl, by decide⟩)) (by first | assumption | (exact mL_get (by decide)) | (rw [mL_len]; decide) | (simp only [mL_set]; exact mL_get (by decide)) | (simp only [mL_set, mL_len]; decide) | (exact va_eq) | (exact (va_ne (by omega)).trans (by assumption)) | (exact (va_ne (by omega)).trans va_eq) | (exact (va_ne (by omega)).trans ((va_ne (by omega)).trans (by assumption))) | (exact (va_ne (by omega)).trans ((va_ne (by omega)).trans ((va_ne (by omega)).trans (by assumption)))) | rfl | (exact Or.inl rfl) | (exact Or.inr rfl) | omega | (exact Nat.le_of_ble_eq_true rfl) | decide | (exact ⟨by decide, rfl, by decide⟩)) (by first | assumption | (exact mL_get (by decide)) | (rw [mL_len]; decide) | (simp only [mL_set]; exact mL_get (by decide)) | (simp only [mL_set, mL_len]; decide) | (exact va_eq) | (exact (va_ne (by omega)).trans (by assumption)) | (exact (va_ne (by omega)).trans va_eq) | (exact (va_ne (by omega)).trans ((va_ne (by omega)).trans (by assumption))) | (exact (va_ne (by omega)).trans ((va_ne (by omega)).trans ((va_ne (by omega)).trans (by assumption)))) | rfl | (exact Or.inl rfl) | (exact Or.inr rfl) | omega | (exact Nat.le_of_ble_eq_true rfl) | decide | (exact ⟨by decide, rfl, by decide⟩)) (by first | assumption | (exact mL_get (by decide)) | (rw [mL_len]; decide) | (simp only [mL_set]; exact mL_get (by decide)) | (simp only [mL_set, mL_len]; decide) | (exact va_eq) | (exact (va_ne (by omega)).trans (by assumption)) | (exact (va_ne (by omega)).trans va_eq) | (exact (va_ne (by omega)).trans ((va_ne (by omega)).trans (by assumption))) | (exact (va_ne (by omega)).trans ((va_ne (by omega)).trans ((va_ne (by omega)).trans (by assumption)))) | rfl | (exact Or.inl rfl) | (exact Or.inr rfl) | omega | (exact Nat.le_of_ble_eq_true rfl) | decide | (exact ⟨by decide, rfl, by decide⟩)) (by first | assumption | (exact mL_get (by decide)) | (rw [mL_len]; decide) | (simp only [mL_set]; exact mL_get (by decide)) | (simp only [mL_set, mL_len]; decide) | (exact va_eq) | (exact (va_ne (by omega)).trans (by assumption)) | (exact (va_ne (by omega)).trans va_eq) | (exact (va_ne (by omega)).trans ((va_ne (by omega)).trans (by assumption))) | (exact (va_ne (by omega)).trans ((va_ne (by omega)).trans ((va_ne (by omega)).trans (by assumption)))) | rfl | (exact Or.inl rfl) | (exact Or.inr rfl) | omega | (exact Nat.le_of_ble_eq_true rfl) | decide | (exact ⟨by decide, rfl, by decide⟩)) ?_
                  refine IHC (e + 7) z3 σ1 _ (by omega) hz3 (fun z4 σ2 hok4 h404 hz4 hg4 hr4 hm4 => ?_) (fun z4 w hbad4 he => ?_)
                  · have q505 := hz4.1.1
                    have qFO := hz4.1.2.1 (516, 800) (by decide)
                    have hn4 := hz4.2.2.2.2.1.2
                    have hge4 := hg4.1.1
                    rw [hok4, ms_eb_ok] at hs0
                    refine b_168_144 _ _ _ _ _ _ (by first | assumption | (exact mL_get (by decide)) | (rw [mL_len]; decide) | (simp only [mL_set]; exact mL_get (by decide)) | (simp only [mL_set, mL_len]; decide) | (exact va_eq) | (exact (va_ne (by omega)).trans (by assumption)) | (exact (va_ne (by omega)).trans va_eq) | (exact (va_ne (by omega)).trans ((va_ne (by omega)).trans (by assumption))) | (exact (va_ne (by omega)).trans ((va_ne (by omega)).trans ((va_ne (by omega)).trans (by assumption)))) | rfl | (exact Or.inl rfl) | (exact Or.inr rfl) | omega | (exact Nat.le_of_ble_eq_true rfl) | decide | (exact ⟨by decide, rfl, by decide⟩)) (by first | assumption | (exact mL_get (by decide)) | (rw [mL_len]; decide) | (simp only [mL_set]; exact mL_get (by decide)) | (simp only [mL_set, mL_len]; decide) | (exact va_eq) | (exact (va_ne (by omega)).trans (by assumption)) | (exact (va_ne (by omega)).trans va_eq) | (exact (va_ne (by omega)).trans ((va_ne (by omega)).trans (by assumption))) | (exact (va_ne (by omega)).trans ((va_ne (by omega)).trans ((va_ne (by omega)).trans (by assumption)))) | rfl | (exact Or.inl rfl) | (exact Or.inr rfl) | omega | (exact Nat.le_of_ble_eq_true rfl) | decide | (exact ⟨by decide, rfl, by decide⟩)) (by first | assumption | (exact mL_get (by decide)) | (rw [mL_len]; decide) | (simp only [mL_set]; exact mL_get (by decide)) | (simp only [mL_set, mL_len]; decide) | (exact va_eq) | (exact (va_ne (by omega)).trans (by assumption)) | (exact (va_ne (by omega)).trans va_eq) | (exact (va_ne (by omega)).trans ((va_ne (by omega)).trans (by assumption))) | (exact (va_ne (by omega)).trans ((va_ne (by omega)).trans ((va_ne (by omega)).trans (by assumption)))) | rfl | (exact Or.inl rfl) | (exact Or.inr rfl) | omega | (exact Nat.le_of_ble_eq_true rfl) | decide | (exact ⟨by decide, rfl, by decide⟩)) ?_ ?_
                    · intro z144
                      show mi_W _ _ _ _ _ (n, sl, (mr_w 516 σ.n (Int32.ofNat σ1.n) z4).f) _
                      have hz5 := mr_w_st (q := 516) (m := σ.n) (v := Int32.ofNat σ1.n) hz4 (by decide)
                      have hg5 := (hg3.trans hg4).w (q := 516) (m := σ.n) (v := Int32.ofNat σ1.n) (by decide) (Nat.le_refl _)
                      have hF5 := mr_w_at (q := 516) (m := σ.n) (v := Int32.ofNat σ1.n) (z := z4)
                      have hna5 := (hna3.kp (hg4.kp hlt3)).w (q := 516) (v := Int32.ofNat σ1.n) (by decide)
                      have hr5 := mr_w_rg (q := 516) (m := σ.n) (v := Int32.ofNat σ1.n) (mr_rg_join (hr3.go hg4 (Nat.le_refl _)) hr4) (Nat.lt_succ_self _)
                      generalize mr_w 516 σ.n (Int32.ofNat σ1.n) z4 = z5 at *
                      have q505 := hz5.1.1
                      have qFI := hz5.1.2.1 (514, 800) (by decide)
                      have qB2 := hz5.1.2.1 (529, 800) (by decide)
                      have hx0 := ix_of (w := mt) (m := 800) (by omega) (by omega)
                      have fin : mi_W (e + 8) 168 174 [some (.ref 505), some (.int (Int32.ofNat m0)), some (.int l3), some (.int (Int32.ofNat (i + 1))), some (.int (Int32.ofNat op)), some (.int (Int32.ofNat σ.n))] [] (n, sl, (mr_w qt mt (Int32.ofNat σ.n) z5).f) Q := by
                        have hz6 := mr_w_st (q := qt) (m := mt) (v := Int32.ofNat σ.n) hz5 hqt
                        have hg6 := hg5.rb (qt := qt) (mt := mt) (v := Int32.ofNat σ.n) hqt hmt
                        have hna6 := hna5.wo (q := qt) (mt := mt) (v := Int32.ofNat σ.n) (by omega)
                        have hF6 := (mr_w_ne (q := qt) (m := mt) (v := Int32.ofNat σ.n) (z := z5) (q' := 516) (i := σ.n) (fun e => absurd e.2 (by omega))).trans hF5
                        have hr6 := mr_w_rg (q := qt) (m := mt) (v := Int32.ofNat σ.n) hr5 (by omega)
                        generalize mr_w qt mt (Int32.ofNat σ.n) z5 = z6 at *
                        have q505 := hz6.1.1
                        have qB2 := hz6.1.2.1 (529, 800) (by decide)
                        refine b_168_174 _ _ _ _ _ _ (by first | assumption | (exact mL_get (by decide)) | (rw [mL_len]; decide) | (simp only [mL_set]; exact mL_get (by decide)) | (simp only [mL_set, mL_len]; decide) | (exact va_eq) | (exact (va_ne (by omega)).trans (by assumption)) | (exact (va_ne (by omega)).trans va_eq) | (exact (va_ne (by omega)).trans ((va_ne (by omega)).trans (by assumption))) | (exact (va_ne (by omega)).trans ((va_ne (by omega)).trans ((va_ne (by omega)).trans (by assumption)))) | rfl | (exact Or.inl rfl) | (exact Or.inr rfl) | omega | (exact Nat.le_of_ble_eq_true rfl) | decide | (exact ⟨by decide, rfl, by decide⟩)) (by first | assumption | (exact mL_get (by decide)) | (rw [mL_len]; decide) | (simp only [mL_set]; exact mL_get (by decide)) | (simp only [mL_set, mL_len]; decide) | (exact va_eq) | (exact (va_ne (by omega)).trans (by assumption)) | (exact (va_ne (by omega)).trans va_eq) | (exact (va_ne (by omega)).trans ((va_ne (by omega)).trans (by assumption))) | (exact (va_ne (by omega)).trans ((va_ne (by omega)).trans ((va_ne (by omega)).trans (by assumption)))) | rfl | (exact Or.inl rfl) | (exact Or.inr rfl) | omega | (exact Nat.le_of_ble_eq_true rfl) | decide | (exact ⟨by decide, rfl, by decide⟩)) (by first | assumption | (exact mL_get (by decide)) | (rw [mL_len]; decide) | (simp only [mL_set]; exact mL_get (by decide)) | (simp only [mL_set, mL_len]; decide) | (exact va_eq) | (exact (va_ne (by omega)).trans (by assumption)) | (exact (va_ne (by omega)).trans va_eq) | (exact (va_ne (by omega)).trans ((va_ne (by omega)).trans (by assumption))) | (exact (va_ne (by omega)).trans ((va_ne (by omega)).trans ((va_ne (by omega)).trans (by assumption)))) | rfl | (exact Or.inl rfl) | (exact Or.inr rfl) | omega | (exact Nat.le_of_ble_eq_true rfl) | decide | (exact ⟨by decide, rfl, by decide⟩)) (by first | assumption | (exact mL_get (by decide)) | (rw [mL_len]; decide) | (simp only [mL_set]; exact mL_get (by decide)) | (simp only [mL_set, mL_len]; decide) | (exact va_eq) | (exact (va_ne (by omega)).trans (by assumption)) | (exact (va_ne (by omega)).trans va_eq) | (exact (va_ne (by omega)).trans ((va_ne (by omega)).trans (by assumption))) | (exact (va_ne (by omega)).trans ((va_ne (by omega)).trans ((va_ne (by omega)).trans (by assumption)))) | rfl | (exact Or.inl rfl) | (exact Or.inr rfl) | omega | (exact Nat.le_of_ble_eq_true rfl) | decide | (exact ⟨by decide, rfl, by decide⟩)) (by first | assumption | (exact mL_get (by decide)) | (rw [mL_len]; decide) | (simp only [mL_set]; exact mL_get (by decide)) | (simp only [mL_set, mL_len]; decide) | (exact va_eq) | (exact (va_ne (by omega)).trans (by assumption)) | (exact (va_ne (by omega)).trans va_eq) | (exact (va_ne (by omega)).trans ((va_ne (by omega)).trans (by assumption))) | (exact (va_ne (by omega)).trans ((va_ne (by omega)).trans ((va_ne (by omega)).trans (by assumption)))) | rfl | (exact Or.inl rfl) | (exact Or.inr rfl) | omega | (exact Nat.le_of_ble_eq_true rfl) | decide | (exact ⟨by decide, rfl, by decide⟩)) (by first | assumption | (exact mL_get (by decide)) | (rw [mL_len]; decide) | (simp only [mL_set]; exact mL_get (by decide)) | (simp only [mL_set, mL_len]; decide) | (exact va_eq) | (exact (va_ne (by omega)).trans (by assumption)) | (exact (va_ne (by omega)).trans va_eq) | (exact (va_ne (by omega)).trans ((va_ne (by omega)).trans (by assumption))) | (exact (va_ne (by omega)).trans ((va_ne (by omega)).trans ((va_ne (by omega)).trans (by assumption)))) | rfl | (exact Or.inl rfl) | (exact Or.inr rfl) | omega | (exact Nat.le_of_ble_eq_true rfl) | decide | (exact ⟨by decide, rfl, by decide⟩)) ?_
                        show mi_W _ _ _ _ _ (n, sl, (mr_w 529 σ.n (-1) z6).f) _
                        have hz7 := mr_w_st (q := 529) (m := σ.n) (v := -1) hz6 (by decide)
                        have hg7 := hg6.w (q := 529) (m := σ.n) (v := -1) (by decide) (Nat.le_refl _)
                        have hna7 := hna6.w (q := 529) (v := -1) (by decide)
                        have hF7 := (mr_w_ne (q := 529) (m := σ.n) (v := -1) (z := z6) (q' := 516) (i := σ.n) (fun e => absurd e.1 (by decide))).trans hF6
                        have hB7 := mr_w_at (q := 529) (m := σ.n) (v := -1) (z := z6)
                        have hr7 := mr_w_rg (q := 529) (m := σ.n) (v := -1) hr6 (Nat.lt_succ_self _)
                        generalize mr_w 529 σ.n (-1) z6 = z7 at *
                        refine ih z7 σ2 (i + 1) 529 σ.n _ _ _ (by omega) (Or.inr ⟨rfl, rfl⟩) (by omega) hB7 hz7 (fun zz σ3 z8 l3' l4' o5' o6' hz3' h27 hz8 hg8 hr8 hls8 => ?_) (fun z' w hb he => ?_)
                        · have hge8 := hg8.1.1
                          have hkp := hg8.kp (m := σ.n) (by omega)
                          have hna8 := (hna7.w (q := 529) (v := mz_lk zz) (by decide)).kp hkp
                          have hF8 := (hkp.1 516 (by decide)).trans ((mr_w_ne (q := 529) (m := σ.n) (v := mz_lk zz) (z := z7) (q' := 516) (i := σ.n) (fun e => absurd e.1 (by decide))).trans hF7)
                          have hB8 := (hkp.1 529 (by decide)).trans (mr_w_at (q := 529) (m := σ.n) (v := mz_lk zz) (z := z7))
                          have hx1 : x.1 = op := ms_ac_op hop3 hok3
                          have htb : ∀ i, σ.n + 1 ≤ i → i < σ2.n → va_up σ3.tb σ.n (x.yz σ1.n zz) i = σ2.tb i := fun i h1 h2 => (va_ne (by omega)).trans (hg8.1.2.2.1 i h2)
                          refine ok σ.n (σ3.set σ.n (x.yz σ1.n zz)) z8 _ _ _ _ (by rw [hs0, hz3']; rfl) h27 hz8 ?_ ?_ ?_
                          · have e1 : mz_lk σ.n = Int32.ofNat σ.n := by unfold mz_lk; rw [if_neg (by omega)]
                            rw [e1]
                            have hgg := (hg7.w (q := 529) (m := σ.n) (v := mz_lk zz) (by decide) (Nat.le_refl _)).trans hg8
                            exact ⟨⟨hgg.1.1, hgg.1.2.1, fun m hm => (va_ne (by omega)).trans (hgg.1.2.2.1 m hm), hgg.1.2.2.2⟩, hgg.2⟩
                          · intro m h1 h2
                            show mr_nr z8 (va_up σ3.tb σ.n (x.yz σ1.n zz) m) m
                            by_cases em : m = σ.n
                            · subst em
                              rw [va_eq]
                              exact hna8.nr (by rw [hx1]; exact hop3) hF8 hB8
                            · rw [va_ne em]
                              by_cases h3 : m < σ2.n
                              · exact (((mr_w_rg (q := 529) (m := σ.n) (v := mz_lk zz) hr7 (Nat.lt_succ_self _)).go hg8 (Nat.le_refl _)) m (by omega) h3)
                              · exact hr8 m (by omega) h2
                          · have hmz := hmz3
                            refine Or.inr ⟨hmt, by show σ.n < σ3.n; omega, ?_⟩
                            show mz_so (va_up σ3.tb σ.n (x.yz σ1.n zz) σ.n).1 = 3 ∧ _
                            rw [show (σ3.set σ.n (x.yz σ1.n zz)).tb = va_up σ3.tb σ.n (x.yz σ1.n zz) from rfl, va_eq]
                            refine ⟨hmz.1, hmz.2.1, fun h4 => ⟨(hmz.2.2.1 h4).1, ?_⟩, ⟨by show σ.n < σ1.n; omega, ?_⟩, hmz.2.2.2, ?_⟩
                            · exact mz_ok.to (lo := σ.n + 1) (hi := σ1.n) (show σ1.n ≤ σ3.n by omega) (fun i h1 h2 => (htb i h1 (by omega)).trans (hg4.1.2.2.1 i h2)) _ _ _ (hmz.2.2.1 h4).1 (hmz.2.2.1 h4).2
                            · exact mz_ok.to (lo := σ.n + 1) (hi := σ2.n) (show σ2.n ≤ σ3.n by omega) (fun i h1 h2 => htb i h1 h2) _ _ _ (show σ.n + 1 ≤ σ1.n by omega) hm4
                            · exact mz_ls.tb' (lo := σ.n + 1) (fun i h1 h2 => va_ne (by omega)) _ _ _ (Nat.le_refl _) hls8
                        · exact er z' w (by rw [hs0]; exact hb.bind (fun x σ' h => ⟨h, rfl⟩)) ((mr_w_rf hqt).er (hg7.er he))
                      rcases hv with ⟨rfl, rfl, rfl⟩ | ⟨rfl, rfl⟩
                      · refine b_168_151 _ _ _ ?_ ?_
                        · intro h
                          exact absurd h (by decide)
                        · intro _
                          refine b_168_155 _ _ _ _ _ _ (by first | assumption | (exact mL_get (by decide)) | (rw [mL_len]; decide) | (simp only [mL_set]; exact mL_get (by decide)) | (simp only [mL_set, mL_len]; decide) | (exact va_eq) | (exact (va_ne (by omega)).trans (by assumption)) | (exact (va_ne (by omega)).trans va_eq) | (exact (va_ne (by omega)).trans ((va_ne (by omega)).trans (by assumption))) | (exact (va_ne (by omega)).trans ((va_ne (by omega)).trans ((va_ne (by omega)).trans (by assumption)))) | rfl | (exact Or.inl rfl) | (exact Or.inr rfl) | omega | (exact Nat.le_of_ble_eq_true rfl) | decide | (exact ⟨by decide, rfl, by decide⟩)) (by first | assumption | (exact mL_get (by decide)) | (rw [mL_len]; decide) | (simp only [mL_set]; exact mL_get (by decide)) | (simp only [mL_set, mL_len]; decide) | (exact va_eq) | (exact (va_ne (by omega)).trans (by assumption)) | (exact (va_ne (by omega)).trans va_eq) | (exact (va_ne (by omega)).trans ((va_ne (by omega)).trans (by assumption))) | (exact (va_ne (by omega)).trans ((va_ne (by omega)).trans ((va_ne (by omega)).trans (by assumption)))) | rfl | (exact Or.inl rfl) | (exact Or.inr rfl) | omega | (exact Nat.le_of_ble_eq_true rfl) | decide | (exact ⟨by decide, rfl, by decide⟩)) (by first | assumption | (exact mL_get (by decide)) | (rw [mL_len]; decide) | (simp only [mL_set]; exact mL_get (by decide)) | (simp only [mL_set, mL_len]; decide) | (exact va_eq) | (exact (va_ne (by omega)).trans (by assumption)) | (exact (va_ne (by omega)).trans va_eq) | (exact (va_ne (by omega)).trans ((va_ne (by omega)).trans (by assumption))) | (exact (va_ne (by omega)).trans ((va_ne (by omega)).trans ((va_ne (by omega)).trans (by assumption)))) | rfl | (exact Or.inl rfl) | (exact Or.inr rfl) | omega | (exact Nat.le_of_ble_eq_true rfl) | decide | (exact ⟨by decide, rfl, by decide⟩)) (by first | assumption | (exact mL_get (by decide)) | (rw [mL_len]; decide) | (simp only [mL_set]; exact mL_get (by decide)) | (simp only [mL_set, mL_len]; decide) | (exact va_eq) | (exact (va_ne (by omega)).trans (by assumption)) | (exact (va_ne (by omega)).trans va_eq) | (exact (va_ne (by omega)).trans ((va_ne (by omega)).trans (by assumption))) | (exact (va_ne (by omega)).trans ((va_ne (by omega)).trans ((va_ne (by omega)).trans (by assumption)))) | rfl | (exact Or.inl rfl) | (exact Or.inr rfl) | omega | (exact Nat.le_of_ble_eq_true rfl) | decide | (exact ⟨by decide, rfl, by decide⟩)) (by first | assumption | (exact mL_get (by decide)) | (rw [mL_len]; decide) | (simp only [mL_set]; exact mL_get (by decide)) | (simp only [mL_set, mL_len]; decide) | (exact va_eq) | (exact (va_ne (by omega)).trans (by assumption)) | (exact (va_ne (by omega)).trans va_eq) | (exact (va_ne (by omega)).trans ((va_ne (by omega)).trans (by assumption))) | (exact (va_ne (by omega)).trans ((va_ne (by omega)).trans ((va_ne (by omega)).trans (by assumption)))) | rfl | (exact Or.inl rfl) | (exact Or.inr rfl) | omega | (exact Nat.le_of_ble_eq_true rfl) | decide | (exact ⟨by decide, rfl, by decide⟩)) (by first | assumption | (exact mL_get (by decide)) | (rw [mL_len]; decide) | (simp only [mL_set]; exact mL_get (by decide)) | (simp only [mL_set, mL_len]; decide) | (exact va_eq) | (exact (va_ne (by omega)).trans (by assumption)) | (exact (va_ne (by omega)).trans va_eq) | (exact (va_ne (by omega)).trans ((va_ne (by omega)).trans (by assumption))) | (exact (va_ne (by omega)).trans ((va_ne (by omega)).trans ((va_ne (by omega)).trans (by assumption)))) | rfl | (exact Or.inl rfl) | (exact Or.inr rfl) | omega | (exact Nat.le_of_ble_eq_true rfl) | decide | (exact ⟨by decide, rfl, by decide⟩)) ?_
                          exact fin
                      · refine b_168_151 _ _ _ ?_ ?_
                        · intro _
                          refine b_168_166 _ _ _ _ _ _ (by first | assumption | (exact mL_get (by decide)) | (rw [mL_len]; decide) | (simp only [mL_set]; exact mL_get (by decide)) | (simp only [mL_set, mL_len]; decide) | (exact va_eq) | (exact (va_ne (by omega)).trans (by assumption)) | (exact (va_ne (by omega)).trans va_eq) | (exact (va_ne (by omega)).trans ((va_ne (by omega)).trans (by assumption))) | (exact (va_ne (by omega)).trans ((va_ne (by omega)).trans ((va_ne (by omega)).trans (by assumption)))) | rfl | (exact Or.inl rfl) | (exact Or.inr rfl) | omega | (exact Nat.le_of_ble_eq_true rfl) | decide | (exact ⟨by decide, rfl, by decide⟩)) (by first | assumption | (exact mL_get (by decide)) | (rw [mL_len]; decide) | (simp only [mL_set]; exact mL_get (by decide)) | (simp only [mL_set, mL_len]; decide) | (exact va_eq) | (exact (va_ne (by omega)).trans (by assumption)) | (exact (va_ne (by omega)).trans va_eq) | (exact (va_ne (by omega)).trans ((va_ne (by omega)).trans (by assumption))) | (exact (va_ne (by omega)).trans ((va_ne (by omega)).trans ((va_ne (by omega)).trans (by assumption)))) | rfl | (exact Or.inl rfl) | (exact Or.inr rfl) | omega | (exact Nat.le_of_ble_eq_true rfl) | decide | (exact ⟨by decide, rfl, by decide⟩)) (by first | assumption | (exact mL_get (by decide)) | (rw [mL_len]; decide) | (simp only [mL_set]; exact mL_get (by decide)) | (simp only [mL_set, mL_len]; decide) | (exact va_eq) | (exact (va_ne (by omega)).trans (by assumption)) | (exact (va_ne (by omega)).trans va_eq) | (exact (va_ne (by omega)).trans ((va_ne (by omega)).trans (by assumption))) | (exact (va_ne (by omega)).trans ((va_ne (by omega)).trans ((va_ne (by omega)).trans (by assumption)))) | rfl | (exact Or.inl rfl) | (exact Or.inr rfl) | omega | (exact Nat.le_of_ble_eq_true rfl) | decide | (exact ⟨by decide, rfl, by decide⟩)) (by first | assumption | (exact mL_get (by decide)) | (rw [mL_len]; decide) | (simp only [mL_set]; exact mL_get (by decide)) | (simp only [mL_set, mL_len]; decide) | (exact va_eq) | (exact (va_ne (by omega)).trans (by assumption)) | (exact (va_ne (by omega)).trans va_eq) | (exact (va_ne (by omega)).trans ((va_ne (by omega)).trans (by assumption))) | (exact (va_ne (by omega)).trans ((va_ne (by omega)).trans ((va_ne (by omega)).trans (by assumption)))) | rfl | (exact Or.inl rfl) | (exact Or.inr rfl) | omega | (exact Nat.le_of_ble_eq_true rfl) | decide | (exact ⟨by decide, rfl, by decide⟩)) (by first | assumption | (exact mL_get (by decide)) | (rw [mL_len]; decide) | (simp only [mL_set]; exact mL_get (by decide)) | (simp only [mL_set, mL_len]; decide) | (exact va_eq) | (exact (va_ne (by omega)).trans (by assumption)) | (exact (va_ne (by omega)).trans va_eq) | (exact (va_ne (by omega)).trans ((va_ne (by omega)).trans (by assumption))) | (exact (va_ne (by omega)).trans ((va_ne (by omega)).trans ((va_ne (by omega)).trans (by assumption)))) | rfl | (exact Or.inl rfl) | (exact Or.inr rfl) | omega | (exact Nat.le_of_ble_eq_true rfl) | decide | (exact ⟨by decide, rfl, by decide⟩)) (by first | assumption | (exact mL_get (by decide)) | (rw [mL_len]; decide) | (simp only [mL_set]; exact mL_get (by decide)) | (simp only [mL_set, mL_len]; decide) | (exact va_eq) | (exact (va_ne (by omega)).trans (by assumption)) | (exact (va_ne (by omega)).trans va_eq) | (exact (va_ne (by omega)).trans ((va_ne (by omega)).trans (by assumption))) | (exact (va_ne (by omega)).trans ((va_ne (by omega)).trans ((va_ne (by omega)).trans (by assumption)))) | rfl | (exact Or.inl rfl) | (exact Or.inr rfl) | omega | (exact Nat.le_of_ble_eq_true rfl) | decide | (exact ⟨by decide, rfl, by decide⟩)) ?_
                          exact fin
                        · intro h
                          exact absurd (of_np (by omega)) h
                    · intro z144
                      first | (exact absurd z144 (by decide)) | (exact absurd (by decide) z144) | (exact absurd rfl z144) | (exact absurd z144 (of_nn (by omega))) | (exact absurd (of_np (by omega)) z144) | omega
                  · have q505 := he.1.1
                    have qFO := he.1.2.1 (516, 800) (by decide)
                    have he := hg3.er he
                    have hbad : ms_bad (ms_as g L (ms_E g L j) (ms_C g L j) (c + 1) σ) w := by rw [hs0]; exact hbad4.bind (fun x σ' h => by rw [ms_as_odd h, ms_eb_er]; exact rfl)
                    refine b_168_144 _ _ _ _ _ _ (by first | assumption | (exact mL_get (by decide)) | (rw [mL_len]; decide) | (simp only [mL_set]; exact mL_get (by decide)) | (simp only [mL_set, mL_len]; decide) | (exact va_eq) | (exact (va_ne (by omega)).trans (by assumption)) | (exact (va_ne (by omega)).trans va_eq) | (exact (va_ne (by omega)).trans ((va_ne (by omega)).trans (by assumption))) | (exact (va_ne (by omega)).trans ((va_ne (by omega)).trans ((va_ne (by omega)).trans (by assumption)))) | rfl | (exact Or.inl rfl) | (exact Or.inr rfl) | omega | (exact Nat.le_of_ble_eq_true rfl) | decide | (exact ⟨by decide, rfl, by decide⟩)) (by first | assumption | (exact mL_get (by decide)) | (rw [mL_len]; decide) | (simp only [mL_set]; exact mL_get (by decide)) | (simp only [mL_set, mL_len]; decide) | (exact va_eq) | (exact (va_ne (by omega)).trans (by assumption)) | (exact (va_ne (by omega)).trans va_eq) | (exact (va_ne (by omega)).trans ((va_ne (by omega)).trans (by assumption))) | (exact (va_ne (by omega)).trans ((va_ne (by omega)).trans ((va_ne (by omega)).trans (by assumption)))) | rfl | (exact Or.inl rfl) | (exact Or.inr rfl) | omega | (exact Nat.le_of_ble_eq_true rfl) | decide | (exact ⟨by decide, rfl, by decide⟩)) (by first | assumption | (exact mL_get (by decide)) | (rw [mL_len]; decide) | (simp only [mL_set]; exact mL_get (by decide)) | (simp only [mL_set, mL_len]; decide) | (exact va_eq) | (exact (va_ne (by omega)).trans (by assumption)) | (exact (va_ne (by omega)).trans va_eq) | (exact (va_ne (by omega)).trans ((va_ne (by omega)).trans (by assumption))) | (exact (va_ne (by omega)).trans ((va_ne (by omega)).trans ((va_ne (by omega)).trans (by assumption)))) | rfl | (exact Or.inl rfl) | (exact Or.inr rfl) | omega | (exact Nat.le_of_ble_eq_true rfl) | decide | (exact ⟨by decide, rfl, by decide⟩)) ?_ ?_
                    · intro z144
                      first | (exact absurd z144 (by decide)) | (exact absurd (by decide) z144) | (exact absurd rfl z144) | (exact absurd z144 (of_nn (by omega))) | (exact absurd (of_np (by omega)) z144) | omega
                    · intro z144
                      show mi_W _ _ _ _ _ (n, sl, (mr_w 516 σ.n (-1) z4).f) _
                      have he := mr_w_er (q := 516) (m := σ.n) (v := -1) he (by decide)
                      refine b_168_149 _ _ _ ?_
                      exact er _ _ hbad he
              · have q505 := he.1.1
                have hbad : ms_bad (ms_as g L (ms_E g L j) (ms_C g L j) (c + 1) σ) w := by rw [hs0]; exact hbad3.bind (fun x σ' h => by rw [ms_C_odd h, ms_eb_er]; exact rfl)
                refine b_168_131 _ _ _ ?_ ?_
                · intro z131
                  refine b_168_149 _ _ _ ?_
                  exact er _ _ hbad he
                · intro z131
                  first | (exact absurd z131 (by decide)) | (exact absurd (by decide) z131) | (exact absurd rfl z131) | (exact absurd z131 (of_nn (by omega))) | (exact absurd (of_np (by omega)) z131) | omega
          · have q505 := he.1.1
            have he := hg1.er he
            have hbad : ms_bad (ms_as g L (ms_E g L j) (ms_C g L j) (c + 1) σ) (σ.add.nx g L).t.a := by rw [hs0, ms_ac_odd h402, ms_eb_er]; exact rfl
            refine b_168_122 _ _ _ ?_ ?_
            · intro z122
              refine b_168_149 _ _ _ ?_
              exact er _ _ hbad he
            · intro z122
              first | (exact absurd z122 (by decide)) | (exact absurd (by decide) z122) | (exact absurd rfl z122) | (exact absurd z122 (of_nn (by omega))) | (exact absurd (of_np (by omega)) z122) | omega
      · have q505 := he.1.1
        rw [if_pos h8] at hs0
        have hbad : ms_bad (ms_as g L (ms_E g L j) (ms_C g L j) (c + 1) σ) σ.t.a := by rw [hs0]; exact rfl
        refine b_168_111 _ _ _ ?_ ?_
        · intro z111
          refine b_168_149 _ _ _ ?_
          exact er _ _ hbad he
        · intro z111
          first | (exact absurd z111 (by decide)) | (exact absurd (by decide) z111) | (exact absurd rfl z111) | (exact absurd z111 (of_nn (by omega))) | (exact absurd (of_np (by omega)) z111) | omega
    have hb : ∀ (l4 l5 : Int32) (hk : ¬ σ.t.k = ms_kc 52) (ho : ms_oa σ.t.k = none), mi_W (e + 8) 168 96 [some (.ref 505), some (.int (Int32.ofNat m0)), some (.int l3), some (.int l4), some (.int l5), o6] [] (n, sl, z.f) Q := by
      intro l4 l5 hk ho
      refine b_168_96 _ _ _ (by first | assumption | (exact mL_get (by decide)) | (rw [mL_len]; decide) | (simp only [mL_set]; exact mL_get (by decide)) | (simp only [mL_set, mL_len]; decide) | (exact va_eq) | (exact (va_ne (by omega)).trans (by assumption)) | (exact (va_ne (by omega)).trans va_eq) | (exact (va_ne (by omega)).trans ((va_ne (by omega)).trans (by assumption))) | (exact (va_ne (by omega)).trans ((va_ne (by omega)).trans ((va_ne (by omega)).trans (by assumption)))) | rfl | (exact Or.inl rfl) | (exact Or.inr rfl) | omega | (exact Nat.le_of_ble_eq_true rfl) | decide | (exact ⟨by decide, rfl, by decide⟩)) (by first | assumption | (exact mL_get (by decide)) | (rw [mL_len]; decide) | (simp only [mL_set]; exact mL_get (by decide)) | (simp only [mL_set, mL_len]; decide) | (exact va_eq) | (exact (va_ne (by omega)).trans (by assumption)) | (exact (va_ne (by omega)).trans va_eq) | (exact (va_ne (by omega)).trans ((va_ne (by omega)).trans (by assumption))) | (exact (va_ne (by omega)).trans ((va_ne (by omega)).trans ((va_ne (by omega)).trans (by assumption)))) | rfl | (exact Or.inl rfl) | (exact Or.inr rfl) | omega | (exact Nat.le_of_ble_eq_true rfl) | decide | (exact ⟨by decide, rfl, by decide⟩)) (by first | assumption | (exact mL_get (by decide)) | (rw [mL_len]; decide) | (simp only [mL_set]; exact mL_get (by decide)) | (simp only [mL_set, mL_len]; decide) | (exact va_eq) | (exact (va_ne (by omega)).trans (by assumption)) | (exact (va_ne (by omega)).trans va_eq) | (exact (va_ne (by omega)).trans ((va_ne (by omega)).trans (by assumption))) | (exact (va_ne (by omega)).trans ((va_ne (by omega)).trans ((va_ne (by omega)).trans (by assumption)))) | rfl | (exact Or.inl rfl) | (exact Or.inr rfl) | omega | (exact Nat.le_of_ble_eq_true rfl) | decide | (exact ⟨by decide, rfl, by decide⟩)) (by first | assumption | (exact mL_get (by decide)) | (rw [mL_len]; decide) | (simp only [mL_set]; exact mL_get (by decide)) | (simp only [mL_set, mL_len]; decide) | (exact va_eq) | (exact (va_ne (by omega)).trans (by assumption)) | (exact (va_ne (by omega)).trans va_eq) | (exact (va_ne (by omega)).trans ((va_ne (by omega)).trans (by assumption))) | (exact (va_ne (by omega)).trans ((va_ne (by omega)).trans ((va_ne (by omega)).trans (by assumption)))) | rfl | (exact Or.inl rfl) | (exact Or.inr rfl) | omega | (exact Nat.le_of_ble_eq_true rfl) | decide | (exact ⟨by decide, rfl, by decide⟩)) (by first | assumption | (exact mL_get (by decide)) | (rw [mL_len]; decide) | (simp only [mL_set]; exact mL_get (by decide)) | (simp only [mL_set, mL_len]; decide) | (exact va_eq) | (exact (va_ne (by omega)).trans (by assumption)) | (exact (va_ne (by omega)).trans va_eq) | (exact (va_ne (by omega)).trans ((va_ne (by omega)).trans (by assumption))) | (exact (va_ne (by omega)).trans ((va_ne (by omega)).trans ((va_ne (by omega)).trans (by assumption)))) | rfl | (exact Or.inl rfl) | (exact Or.inr rfl) | omega | (exact Nat.le_of_ble_eq_true rfl) | decide | (exact ⟨by decide, rfl, by decide⟩)) ?_
      rw [h9]
      refine sq_bad hn hz (fun z' a1 => ?_)
      refine b_168_104 _ _ _ (by first | assumption | (exact mL_get (by decide)) | (rw [mL_len]; decide) | (simp only [mL_set]; exact mL_get (by decide)) | (simp only [mL_set, mL_len]; decide) | (exact va_eq) | (exact (va_ne (by omega)).trans (by assumption)) | (exact (va_ne (by omega)).trans va_eq) | (exact (va_ne (by omega)).trans ((va_ne (by omega)).trans (by assumption))) | (exact (va_ne (by omega)).trans ((va_ne (by omega)).trans ((va_ne (by omega)).trans (by assumption)))) | rfl | (exact Or.inl rfl) | (exact Or.inr rfl) | omega | (exact Nat.le_of_ble_eq_true rfl) | decide | (exact ⟨by decide, rfl, by decide⟩)) ?_
      refine er z' _ ?_ a1
      rw [ms_as_s', if_neg hk, ho]
      exact rfl
    refine b_168_27 _ _ _ (by first | assumption | (exact mL_get (by decide)) | (rw [mL_len]; decide) | (simp only [mL_set]; exact mL_get (by decide)) | (simp only [mL_set, mL_len]; decide) | (exact va_eq) | (exact (va_ne (by omega)).trans (by assumption)) | (exact (va_ne (by omega)).trans va_eq) | (exact (va_ne (by omega)).trans ((va_ne (by omega)).trans (by assumption))) | (exact (va_ne (by omega)).trans ((va_ne (by omega)).trans ((va_ne (by omega)).trans (by assumption)))) | rfl | (exact Or.inl rfl) | (exact Or.inr rfl) | omega | (exact Nat.le_of_ble_eq_true rfl) | decide | (exact ⟨by decide, rfl, by decide⟩)) (by first | assumption | (exact mL_get (by decide)) | (rw [mL_len]; decide) | (simp only [mL_set]; exact mL_get (by decide)) | (simp only [mL_set, mL_len]; decide) | (exact va_eq) | (exact (va_ne (by omega)).trans (by assumption)) | (exact (va_ne (by omega)).trans va_eq) | (exact (va_ne (by omega)).trans ((va_ne (by omega)).trans (by assumption))) | (exact (va_ne (by omega)).trans ((va_ne (by omega)).trans ((va_ne (by omega)).trans (by assumption)))) | rfl | (exact Or.inl rfl) | (exact Or.inr rfl) | omega | (exact Nat.le_of_ble_eq_true rfl) | decide | (exact ⟨by decide, rfl, by decide⟩)) ?_
    refine sq_sign hn hz (by decide) (fun hk => ?_) (fun hk => ?_)
    · refine b_168_34 _ _ _ ?_ ?_
      · intro z34
        exact ok 0 σ z _ _ _ _ (by rw [ms_as_s', if_pos hk]) hk hz (mr_go.w0 hT hqt) (fun m h1 h2 => absurd h2 (by omega)) (Or.inl rfl)
      · intro z34
        first | (exact absurd z34 (by decide)) | (exact absurd (by decide) z34) | (exact absurd rfl z34) | (exact absurd z34 (of_nn (by omega))) | (exact absurd (of_np (by omega)) z34) | omega
    · refine b_168_34 _ _ _ ?_ ?_
      · intro z34
        first | (exact absurd z34 (by decide)) | (exact absurd (by decide) z34) | (exact absurd rfl z34) | (exact absurd z34 (of_nn (by omega))) | (exact absurd (of_np (by omega)) z34) | omega
      · intro z34
        refine b_168_37 _ _ _ (by first | assumption | (exact mL_get (by decide)) | (rw [mL_len]; decide) | (simp only [mL_set]; exact mL_get (by decide)) | (simp only [mL_set, mL_len]; decide) | (exact va_eq) | (exact (va_ne (by omega)).trans (by assumption)) | (exact (va_ne (by omega)).trans va_eq) | (exact (va_ne (by omega)).trans ((va_ne (by omega)).trans (by assumption))) | (exact (va_ne (by omega)).trans ((va_ne (by omega)).trans ((va_ne (by omega)).trans (by assumption)))) | rfl | (exact Or.inl rfl) | (exact Or.inr rfl) | omega | (exact Nat.le_of_ble_eq_true rfl) | decide | (exact ⟨by decide, rfl, by decide⟩)) (by first | assumption | (exact mL_get (by decide)) | (rw [mL_len]; decide) | (simp only [mL_set]; exact mL_get (by decide)) | (simp only [mL_set, mL_len]; decide) | (exact va_eq) | (exact (va_ne (by omega)).trans (by assumption)) | (exact (va_ne (by omega)).trans va_eq) | (exact (va_ne (by omega)).trans ((va_ne (by omega)).trans (by assumption))) | (exact (va_ne (by omega)).trans ((va_ne (by omega)).trans ((va_ne (by omega)).trans (by assumption)))) | rfl | (exact Or.inl rfl) | (exact Or.inr rfl) | omega | (exact Nat.le_of_ble_eq_true rfl) | decide | (exact ⟨by decide, rfl, by decide⟩)) ?_
        refine sq_key hn hz (by decide) (fun hk7 => ?_) (fun hk7 => ?_)
        · refine b_168_43 _ _ _ ?_ ?_
          · intro z43
            first | (exact absurd z43 (by decide)) | (exact absurd (by decide) z43) | (exact absurd rfl z43) | (exact absurd z43 (of_nn (by omega))) | (exact absurd (of_np (by omega)) z43) | omega
          · intro z43
            refine b_168_46 _ _ _ ?_
            refine b_168_80 _ _ _ ?_ ?_
            · intro z80
              first | (exact absurd z80 (by decide)) | (exact absurd (by decide) z80) | (exact absurd rfl z80) | (exact absurd z80 (of_nn (by omega))) | (exact absurd (of_np (by omega)) z80) | omega
            · intro z80
              refine b_168_87 _ _ _ ?_ ?_
              · intro z87
                rw [of_succ]
                exact hmk 7 hk (by unfold ms_oa; rw [if_pos hk7]) (by decide)
              · intro z87
                exact absurd ((of_eq (b := 8) (by omega) (by omega)).mp (Classical.not_not.mp z87)) (by omega)
        · refine b_168_43 _ _ _ ?_ ?_
          · intro z43
            refine b_168_51 _ _ _ (by first | assumption | (exact mL_get (by decide)) | (rw [mL_len]; decide) | (simp only [mL_set]; exact mL_get (by decide)) | (simp only [mL_set, mL_len]; decide) | (exact va_eq) | (exact (va_ne (by omega)).trans (by assumption)) | (exact (va_ne (by omega)).trans va_eq) | (exact (va_ne (by omega)).trans ((va_ne (by omega)).trans (by assumption))) | (exact (va_ne (by omega)).trans ((va_ne (by omega)).trans ((va_ne (by omega)).trans (by assumption)))) | rfl | (exact Or.inl rfl) | (exact Or.inr rfl) | omega | (exact Nat.le_of_ble_eq_true rfl) | decide | (exact ⟨by decide, rfl, by decide⟩)) (by first | assumption | (exact mL_get (by decide)) | (rw [mL_len]; decide) | (simp only [mL_set]; exact mL_get (by decide)) | (simp only [mL_set, mL_len]; decide) | (exact va_eq) | (exact (va_ne (by omega)).trans (by assumption)) | (exact (va_ne (by omega)).trans va_eq) | (exact (va_ne (by omega)).trans ((va_ne (by omega)).trans (by assumption))) | (exact (va_ne (by omega)).trans ((va_ne (by omega)).trans ((va_ne (by omega)).trans (by assumption)))) | rfl | (exact Or.inl rfl) | (exact Or.inr rfl) | omega | (exact Nat.le_of_ble_eq_true rfl) | decide | (exact ⟨by decide, rfl, by decide⟩)) ?_
            refine sq_key hn hz (by decide) (fun hk8 => ?_) (fun hk8 => ?_)
            · refine b_168_57 _ _ _ ?_ ?_
              · intro z57
                first | (exact absurd z57 (by decide)) | (exact absurd (by decide) z57) | (exact absurd rfl z57) | (exact absurd z57 (of_nn (by omega))) | (exact absurd (of_np (by omega)) z57) | omega
              · intro z57
                refine b_168_60 _ _ _ ?_
                refine b_168_80 _ _ _ ?_ ?_
                · intro z80
                  first | (exact absurd z80 (by decide)) | (exact absurd (by decide) z80) | (exact absurd rfl z80) | (exact absurd z80 (of_nn (by omega))) | (exact absurd (of_np (by omega)) z80) | omega
                · intro z80
                  refine b_168_87 _ _ _ ?_ ?_
                  · intro z87
                    rw [of_succ]
                    exact hmk 8 hk (by unfold ms_oa; rw [if_neg hk7, if_pos hk8]) (by decide)
                  · intro z87
                    exact absurd ((of_eq (b := 8) (by omega) (by omega)).mp (Classical.not_not.mp z87)) (by omega)
            · refine b_168_57 _ _ _ ?_ ?_
              · intro z57
                refine b_168_65 _ _ _ (by first | assumption | (exact mL_get (by decide)) | (rw [mL_len]; decide) | (simp only [mL_set]; exact mL_get (by decide)) | (simp only [mL_set, mL_len]; decide) | (exact va_eq) | (exact (va_ne (by omega)).trans (by assumption)) | (exact (va_ne (by omega)).trans va_eq) | (exact (va_ne (by omega)).trans ((va_ne (by omega)).trans (by assumption))) | (exact (va_ne (by omega)).trans ((va_ne (by omega)).trans ((va_ne (by omega)).trans (by assumption)))) | rfl | (exact Or.inl rfl) | (exact Or.inr rfl) | omega | (exact Nat.le_of_ble_eq_true rfl) | decide | (exact ⟨by decide, rfl, by decide⟩)) (by first | assumption | (exact mL_get (by decide)) | (rw [mL_len]; decide) | (simp only [mL_set]; exact mL_get (by decide)) | (simp only [mL_set, mL_len]; decide) | (exact va_eq) | (exact (va_ne (by omega)).trans (by assumption)) | (exact (va_ne (by omega)).trans va_eq) | (exact (va_ne (by omega)).trans ((va_ne (by omega)).trans (by assumption))) | (exact (va_ne (by omega)).trans ((va_ne (by omega)).trans ((va_ne (by omega)).trans (by assumption)))) | rfl | (exact Or.inl rfl) | (exact Or.inr rfl) | omega | (exact Nat.le_of_ble_eq_true rfl) | decide | (exact ⟨by decide, rfl, by decide⟩)) ?_
                refine sq_key hn hz (by decide) (fun hk9 => ?_) (fun hk9 => ?_)
                · refine b_168_71 _ _ _ ?_ ?_
                  · intro z71
                    first | (exact absurd z71 (by decide)) | (exact absurd (by decide) z71) | (exact absurd rfl z71) | (exact absurd z71 (of_nn (by omega))) | (exact absurd (of_np (by omega)) z71) | omega
                  · intro z71
                    refine b_168_74 _ _ _ ?_
                    refine b_168_80 _ _ _ ?_ ?_
                    · intro z80
                      first | (exact absurd z80 (by decide)) | (exact absurd (by decide) z80) | (exact absurd rfl z80) | (exact absurd z80 (of_nn (by omega))) | (exact absurd (of_np (by omega)) z80) | omega
                    · intro z80
                      refine b_168_87 _ _ _ ?_ ?_
                      · intro z87
                        rw [of_succ]
                        exact hmk 9 hk (by unfold ms_oa; rw [if_neg hk7, if_neg hk8, if_pos hk9]) (by decide)
                      · intro z87
                        exact absurd ((of_eq (b := 8) (by omega) (by omega)).mp (Classical.not_not.mp z87)) (by omega)
                · refine b_168_71 _ _ _ ?_ ?_
                  · intro z71
                    refine b_168_79 _ _ _ ?_
                    refine b_168_80 _ _ _ ?_ ?_
                    · intro z80
                      exact hb _ _ hk (by unfold ms_oa; rw [if_neg hk7, if_neg hk8, if_neg hk9])
                    · intro z80
                      first | (exact absurd z80 (by decide)) | (exact absurd (by decide) z80) | (exact absurd rfl z80) | (exact absurd z80 (of_nn (by omega))) | (exact absurd (of_np (by omega)) z80) | omega
                  · intro z71
                    first | (exact absurd z71 (by decide)) | (exact absurd (by decide) z71) | (exact absurd rfl z71) | (exact absurd z71 (of_nn (by omega))) | (exact absurd (of_np (by omega)) z71) | omega
              · intro z57
                first | (exact absurd z57 (by decide)) | (exact absurd (by decide) z57) | (exact absurd rfl z57) | (exact absurd z57 (of_nn (by omega))) | (exact absurd (of_np (by omega)) z57) | omega
          · intro z43
            first | (exact absurd z43 (by decide)) | (exact absurd (by decide) z43) | (exact absurd rfl z43) | (exact absurd z43 (of_nn (by omega))) | (exact absurd (of_np (by omega)) z43) | omega
end
