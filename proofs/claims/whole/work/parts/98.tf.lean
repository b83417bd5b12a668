/-! the second object while it reads -/
abbrev mr_Z : Type := (Nat → mi_C) × (Nat → Int32) × (Nat → Int64) × (Nat → Nat → Int32) × (Nat → Nat → Int64)
def mr_Z.f (z : mr_Z) : Nat → mi_C := z.1
def mr_Z.X (z : mr_Z) : Nat → Int32 := z.2.1
def mr_Z.Y (z : mr_Z) : Nat → Int64 := z.2.2.1
def mr_Z.I (z : mr_Z) : Nat → Nat → Int32 := z.2.2.2.1
def mr_Z.J (z : mr_Z) : Nat → Nat → Int64 := z.2.2.2.2
def mr_tab (I : Nat → Nat → Int32) (pa ps c : Nat) (tb : Nat → Nat × Nat) : Prop := ∀ i, i < c → I pa i = Int32.ofNat (tb i).1 ∧ I ps i = Int32.ofNat (tb i).2 ∧ (tb i).1 + (tb i).2 ≤ 8192
def mr_Q (z : mr_Z) (g : Nat → Int32) (L : Nat) (σ : ms_S) (k : Nat) : Prop := mr_Tk z.X z.Y z.I g L σ.t ∧ z.X 3 = -1 ∧ (z.X 21 = Int32.ofNat σ.n ∧ σ.n ≤ 800) ∧ (z.X 22 = Int32.ofNat (100 - k) ∧ k ≤ 100) ∧ (z.X 23 = Int32.ofNat σ.q ∧ 2 * σ.q ≤ σ.t.b ∧ ∀ i, i < σ.q → z.J 518 i = (σ.bd i).1 ∧ z.J 519 i = (σ.bd i).2) ∧ (z.X 24 = Int32.ofNat σ.P.1 ∧ σ.P.1 ≤ 8 ∧ mr_tab z.I 520 521 σ.P.1 σ.P.2) ∧ (z.X 25 = Int32.ofNat σ.T.1 ∧ σ.T.1 ≤ 4 ∧ mr_tab z.I 522 523 σ.T.1 σ.T.2) ∧ (z.X 27 = Int32.ofNat σ.N.1 ∧ σ.N.1 ≤ 8 ∧ mr_tab z.I 524 525 σ.N.1 σ.N.2) ∧ z.X 26 = Int32.ofNat σ.H.1 ∧ σ.H.1 ≤ 8 ∧ ∀ i, i < σ.H.1 → z.I 526 i = Int32.ofNat (σ.H.2 i).1 ∧ z.I 527 i = Int32.ofNat (σ.H.2 i).2.1 ∧ z.I 528 i = Int32.ofNat (σ.H.2 i).2.2 ∧ (σ.H.2 i).1 + (σ.H.2 i).2.1 ≤ 8192 ∧ (σ.H.2 i).2.2 < 8
def mr_st (n : Nat) (s : Value) (g : Nat → Int32) (L : Nat) (z : mr_Z) (σ : ms_S) (k : Nat) : Prop := mr_B z.f z.X z.Y s z.I z.J ∧ mr_KS n z.f ∧ mr_Q z g L σ k
def mr_rf (z z' : mr_Z) : Prop := (∀ j, j < 3 ∨ (3 < j ∧ j < 8) ∨ (10 < j ∧ j < 21) ∨ 27 < j → z'.X j = z.X j) ∧ (∀ j, ¬ j = 11 → z'.Y j = z.Y j) ∧ (∀ q, q < 509 ∨ 530 < q → z'.I q = z.I q) ∧ (∀ q, q < 517 ∨ 519 < q → z'.J q = z.J q) ∧ ∀ q, mr_far q → z'.f q = z.f q
def mr_old (N B : Nat) (z z' : mr_Z) : Prop := (∀ q m, q < 520 ∨ 528 < q → m < N → z'.I q m = z.I q m) ∧ (∀ m, m < N → z'.J 517 m = z.J 517 m) ∧ ∀ i, i < B → z'.J 518 i = z.J 518 i ∧ z'.J 519 i = z.J 519 i
def mr_go (z : mr_Z) (σ : ms_S) (z' : mr_Z) (σ' : ms_S) : Prop := (σ.n ≤ σ'.n ∧ σ.q ≤ σ'.q ∧ (∀ m, m < σ.n → σ'.tb m = σ.tb m) ∧ ∀ i, i < σ.q → σ'.bd i = σ.bd i) ∧ mr_rf z z' ∧ mr_old σ.n σ.q z z'
def mr_er (n : Nat) (s : Value) (z z' : mr_Z) (w : Nat) : Prop := mr_B z'.f z'.X z'.Y s z'.I z'.J ∧ z'.X 3 = Int32.ofNat w ∧ mr_rf z z'
section
variable {z z1 z2 : mr_Z} {σ σ1 σ2 : ms_S} {n N B N' B' w : Nat} {s : Value}
theorem mr_rf.re : mr_rf z z := ⟨fun _ _ => rfl, fun _ _ => rfl, fun _ _ => rfl, fun _ _ => rfl, fun _ _ => rfl⟩
theorem mr_rf.trans (h : mr_rf z z1) (h' : mr_rf z1 z2) : mr_rf z z2 := ⟨fun j a => (h'.1 j a).trans (h.1 j a), fun j a => (h'.2.1 j a).trans (h.2.1 j a), fun j a => (h'.2.2.1 j a).trans (h.2.2.1 j a), fun j a => (h'.2.2.2.1 j a).trans (h.2.2.2.1 j a), fun j a => (h'.2.2.2.2 j a).trans (h.2.2.2.2 j a)⟩
theorem mr_old.re : mr_old N B z z := ⟨fun _ _ _ _ => rfl, fun _ _ => rfl, fun _ _ => ⟨rfl, rfl⟩⟩
theorem mr_old.trans (h : mr_old N B z z1) (h' : mr_old N' B' z1 z2) (hN : N ≤ N') (hB : B ≤ B') : mr_old N B z z2 := ⟨fun q m a b => (h'.1 q m a (by omega)).trans (h.1 q m a b), fun m a => (h'.2.1 m (by omega)).trans (h.2.1 m a), fun i a => ⟨((h'.2.2 i (by omega)).1).trans (h.2.2 i a).1, ((h'.2.2 i (by omega)).2).trans (h.2.2 i a).2⟩⟩
theorem mr_go.re : mr_go z σ z σ := ⟨⟨Nat.le_refl _, Nat.le_refl _, fun _ _ => rfl, fun _ _ => rfl⟩, mr_rf.re, mr_old.re⟩
theorem mr_go.trans (h : mr_go z σ z1 σ1) (h' : mr_go z1 σ1 z2 σ2) : mr_go z σ z2 σ2 := ⟨⟨Nat.le_trans h.1.1 h'.1.1, Nat.le_trans h.1.2.1 h'.1.2.1, fun m hm => (h'.1.2.2.1 m (Nat.lt_of_lt_of_le hm h.1.1)).trans (h.1.2.2.1 m hm), fun m hm => (h'.1.2.2.2 m (Nat.lt_of_lt_of_le hm h.1.2.1)).trans (h.1.2.2.2 m hm)⟩, h.2.1.trans h'.2.1, h.2.2.trans h'.2.2 h.1.1 h.1.2.1⟩
theorem mr_go.er (h : mr_go z σ z1 σ1) (h' : mr_er n s z1 z2 w) : mr_er n s z z2 w := ⟨h'.1, h'.2.1, h.2.1.trans h'.2.2⟩
theorem mr_rf.er (h : mr_rf z z1) (h' : mr_er n s z1 z2 w) : mr_er n s z z2 w := ⟨h'.1, h'.2.1, h.trans h'.2.2⟩
end
section
variable {d n sl k : Nat} {z : mr_Z} {σ : ms_S} {s : Value} {Q : (Option Value ⊕ Nat) → mi_H → Prop} {g : Nat → Int32} {L : Nat}
theorem mr_st.sg (h : mr_st n s g L z σ k) : ¬ 0 ≤ z.X 3 := by
  rw [h.2.2.2.1]
  decide
theorem mr_nf_rf {z' : mr_Z} (h : mr_nf z.f z'.f z.X z'.X z.Y z'.Y) (hI : z'.I = z.I) (hJ : z'.J = z.J) : mr_rf z z' :=
  ⟨fun j a => h.1 j (by omega) (by omega) (by omega) (by omega), h.2.1, fun q _ => by rw [hI], fun q _ => by rw [hJ], fun q hq => h.2.2 q (by unfold mr_far at hq; omega)⟩
theorem sq_next (hn : 575 ≤ n) (hz : mr_st n s g L z σ k) (k1 : ∀ z', ¬ (σ.nx g L).t.k = 40 → mr_st n s g L z' (σ.nx g L) k → mr_go z σ z' (σ.nx g L) → z'.I = z.I → z'.J = z.J → Q (.inl (some (.int 1))) (n, sl, z'.f)) (k0 : ∀ z', (σ.nx g L).t.k = 40 → mr_er n s z z' (σ.nx g L).t.a → Q (.inl (some (.int 0))) (n, sl, z'.f)) : mi_W (d + 1 + 1 + 1 + 1 + 1) 145 0 (mi_en 4 [.ref 505]) [] (n, sl, z.f) Q := by
  have h3 := hz.sg
  obtain ⟨hB, hK, hT, h3', ⟨h21, hn8⟩, ⟨h22, hk1⟩, ⟨h23, hq, hbd⟩, ⟨h24, hcp, hP⟩, ⟨h25, hct, hTt⟩, ⟨h27, hcx, hN⟩, h26, hch, hH⟩ := hz
  have hle := hT.le
  have hT' := hT
  obtain ⟨e1, e2, e3, e4, e5, e6, e7, k', hk', et⟩ := hT
  have hnl := ms_nx_le (g := g) (L := L) (p := σ.t.b) hle.2.1
  refine sp_next hn hB hK e1 e2 e3 h3 hle.2.1 e6 (fun f' X' Y' h40 hB' hK' hT2 hx3 hnf => ?_) (fun f' X' Y' h40 hB' hx3 hnf => ?_)
  · have hx : ∀ j, 20 < j → X' j = z.X j := fun j hj => hnf.1 j (by omega) (by omega) (by omega) (by omega)
    refine k1 ⟨f', X', Y', z.I, z.J⟩ h40 ⟨hB', hK', hT2, hx3.trans h3', ⟨(hx 21 (by decide)).trans h21, hn8⟩, ⟨(hx 22 (by decide)).trans h22, hk1⟩, ⟨(hx 23 (by decide)).trans h23, ?_, hbd⟩, ⟨(hx 24 (by decide)).trans h24, hcp, hP⟩, ⟨(hx 25 (by decide)).trans h25, hct, hTt⟩, ⟨(hx 27 (by decide)).trans h27, hcx, hN⟩, (hx 26 (by decide)).trans h26, hch, hH⟩ ⟨⟨Nat.le_refl _, Nat.le_refl _, fun _ _ => rfl, fun _ _ => rfl⟩, mr_nf_rf (z := z) (z' := ⟨f', X', Y', z.I, z.J⟩) hnf rfl rfl, ⟨fun _ _ _ _ => rfl, fun _ _ => rfl, fun _ _ => ⟨rfl, rfl⟩⟩⟩ rfl rfl
    show 2 * σ.q ≤ (ms_nx g L σ.t.b).b
    omega
  · exact k0 ⟨f', X', Y', z.I, z.J⟩ h40 ⟨hB', hx3, mr_nf_rf (z := z) (z' := ⟨f', X', Y', z.I, z.J⟩) hnf rfl rfl⟩
theorem sq_bad (hn : 575 ≤ n) (hz : mr_st n s g L z σ k) {p : Nat} (K : ∀ z', mr_er n s z z' p → Q (.inl (some (.int 0))) (n, sl, z'.f)) : mi_W d 143 0 (mi_en 2 [.ref 505, .int (Int32.ofNat p)]) [] (n, sl, z.f) Q := by
  refine sp_bad hn hz.1 (fun h => absurd h hz.sg) (fun _ f' hB' hf' => ?_)
  refine K ⟨f', va_up z.X 3 (Int32.ofNat p), z.Y, z.I, z.J⟩ ⟨hB', rfl, ⟨fun j hj => va_ne (by omega), fun _ _ => rfl, fun _ _ => rfl, fun _ _ => rfl, fun q hq => hf' q (by unfold mr_far at hq; omega)⟩⟩
theorem sq_key {c : Nat} (hn : 575 ≤ n) (hz : mr_st n s g L z σ k) (hc : 16 ≤ c ∧ c < 40) (k1 : σ.t.k = ms_kc c → Q (.inl (some (.int 1))) (n, sl, z.f)) (k0 : ¬ σ.t.k = ms_kc c → Q (.inl (some (.int 0))) (n, sl, z.f)) : mi_W (d + 1 + 1 + 1 + 1 + 1) 156 0 (mi_en 2 [.ref 505, .ref (mi_SC + 1 + 2 * c)]) [] (n, sl, z.f) Q := sp_key hn hz.1 hz.2.1 hz.2.2.1 hc k1 k0
theorem sq_sign {c : Nat} (hn : 575 ≤ n) (hz : mr_st n s g L z σ k) (hc : 40 ≤ c ∧ c < 53) (k1 : σ.t.k = ms_kc c → Q (.inl (some (.int 1))) (n, sl, z.f)) (k0 : ¬ σ.t.k = ms_kc c → Q (.inl (some (.int 0))) (n, sl, z.f)) : mi_W (d + 1 + 1 + 1 + 1 + 1) 153 0 (mi_en 2 [.ref 505, .ref (mi_SC + 1 + 2 * c)]) [] (n, sl, z.f) Q := sp_sign hn hz.1 hz.2.1 hz.2.2.1 hc k1 k0
/-- need(sign(c)), its argument reckoned -/
theorem sq_need1 {c : Nat} (hn : 575 ≤ n) (hz : mr_st n s g L z σ k) (h : σ.t.k = c) (k1 : ∀ z', ¬ (σ.nx g L).t.k = 40 → ms_need g L c σ = .ok ((), σ.nx g L) → mr_st n s g L z' (σ.nx g L) k → mr_go z σ z' (σ.nx g L) → z'.I = z.I → z'.J = z.J → Q (.inl (some (.int 1))) (n, sl, z'.f)) (k0 : ∀ z' w, ms_bad (ms_need g L c σ) w → mr_er n s z z' w → Q (.inl (some (.int 0))) (n, sl, z'.f)) : mi_W (d + 1 + 1 + 1 + 1 + 1 + 1) 155 0 (mi_en 2 [.ref 505, .int 1]) [] (n, sl, z.f) Q := by
  have q505 := hz.1.1
  have e : ms_need g L c σ = .ok ((), σ.nx g L) := by
    unfold ms_need
    rw [if_pos h]
  refine b_155_0 _ _ _ ?_ ?_
  · intro h
    exact absurd h (by decide)
  · intro _
    refine b_155_4 _ _ _ (by first | assumption | (exact mL_get (by decide)) | (rw [mL_len]; decide) | (simp only [mL_set]; exact mL_get (by decide)) | (simp only [mL_set, mL_len]; decide) | (exact va_eq) | (exact (va_ne (by omega)).trans (by assumption)) | (exact (va_ne (by omega)).trans va_eq) | (exact (va_ne (by omega)).trans ((va_ne (by omega)).trans (by assumption))) | (exact (va_ne (by omega)).trans ((va_ne (by omega)).trans ((va_ne (by omega)).trans (by assumption)))) | rfl | (exact Or.inl rfl) | (exact Or.inr rfl) | omega | (exact Nat.le_of_ble_eq_true rfl) | decide | (exact ⟨by decide, rfl, by decide⟩)) (by first | assumption | (exact mL_get (by decide)) | (rw [mL_len]; decide) | (simp only [mL_set]; exact mL_get (by decide)) | (simp only [mL_set, mL_len]; decide) | (exact va_eq) | (exact (va_ne (by omega)).trans (by assumption)) | (exact (va_ne (by omega)).trans va_eq) | (exact (va_ne (by omega)).trans ((va_ne (by omega)).trans (by assumption))) | (exact (va_ne (by omega)).trans ((va_ne (by omega)).trans ((va_ne (by omega)).trans (by assumption)))) | rfl | (exact Or.inl rfl) | (exact Or.inr rfl) | omega | (exact Nat.le_of_ble_eq_true rfl) | decide | (exact ⟨by decide, rfl, by decide⟩)) ?_
    refine sq_next hn hz (fun z' h40 a1 a2 a3 a4 => ?_) (fun z' h40 a1 => ?_)
    · refine b_155_8 _ _ _ ?_
      refine b_155_19 _ _ _ (by first | assumption | (exact mL_get (by decide)) | (rw [mL_len]; decide) | (simp only [mL_set]; exact mL_get (by decide)) | (simp only [mL_set, mL_len]; decide) | (exact va_eq) | (exact (va_ne (by omega)).trans (by assumption)) | (exact (va_ne (by omega)).trans va_eq) | (exact (va_ne (by omega)).trans ((va_ne (by omega)).trans (by assumption))) | (exact (va_ne (by omega)).trans ((va_ne (by omega)).trans ((va_ne (by omega)).trans (by assumption)))) | rfl | (exact Or.inl rfl) | (exact Or.inr rfl) | omega | (exact Nat.le_of_ble_eq_true rfl) | decide | (exact ⟨by decide, rfl, by decide⟩)) ?_
      exact k1 z' h40 e a1 a2 a3 a4
    · refine b_155_8 _ _ _ ?_
      refine b_155_19 _ _ _ (by first | assumption | (exact mL_get (by decide)) | (rw [mL_len]; decide) | (simp only [mL_set]; exact mL_get (by decide)) | (simp only [mL_set, mL_len]; decide) | (exact va_eq) | (exact (va_ne (by omega)).trans (by assumption)) | (exact (va_ne (by omega)).trans va_eq) | (exact (va_ne (by omega)).trans ((va_ne (by omega)).trans (by assumption))) | (exact (va_ne (by omega)).trans ((va_ne (by omega)).trans ((va_ne (by omega)).trans (by assumption)))) | rfl | (exact Or.inl rfl) | (exact Or.inr rfl) | omega | (exact Nat.le_of_ble_eq_true rfl) | decide | (exact ⟨by decide, rfl, by decide⟩)) ?_
      refine k0 z' _ ?_ a1
      rw [e]
      exact ⟨h40, rfl⟩
theorem sq_need0 {c : Nat} (hn : 575 ≤ n) (hz : mr_st n s g L z σ k) (h : ¬ σ.t.k = c) (k0 : ∀ z' w, ms_bad (ms_need g L c σ) w → mr_er n s z z' w → Q (.inl (some (.int 0))) (n, sl, z'.f)) : mi_W (d + 1 + 1 + 1 + 1 + 1 + 1) 155 0 (mi_en 2 [.ref 505, .int 0]) [] (n, sl, z.f) Q := by
  have q505 := hz.1.1
  have h9 := hz.2.2.1.2.2.2.2.1
  refine b_155_0 _ _ _ ?_ ?_
  · intro _
    refine b_155_11 _ _ _ (by first | assumption | (exact mL_get (by decide)) | (rw [mL_len]; decide) | (simp only [mL_set]; exact mL_get (by decide)) | (simp only [mL_set, mL_len]; decide) | (exact va_eq) | (exact (va_ne (by omega)).trans (by assumption)) | (exact (va_ne (by omega)).trans va_eq) | (exact (va_ne (by omega)).trans ((va_ne (by omega)).trans (by assumption))) | (exact (va_ne (by omega)).trans ((va_ne (by omega)).trans ((va_ne (by omega)).trans (by assumption)))) | rfl | (exact Or.inl rfl) | (exact Or.inr rfl) | omega | (exact Nat.le_of_ble_eq_true rfl) | decide | (exact ⟨by decide, rfl, by decide⟩)) (by first | assumption | (exact mL_get (by decide)) | (rw [mL_len]; decide) | (simp only [mL_set]; exact mL_get (by decide)) | (simp only [mL_set, mL_len]; decide) | (exact va_eq) | (exact (va_ne (by omega)).trans (by assumption)) | (exact (va_ne (by omega)).trans va_eq) | (exact (va_ne (by omega)).trans ((va_ne (by omega)).trans (by assumption))) | (exact (va_ne (by omega)).trans ((va_ne (by omega)).trans ((va_ne (by omega)).trans (by assumption)))) | rfl | (exact Or.inl rfl) | (exact Or.inr rfl) | omega | (exact Nat.le_of_ble_eq_true rfl) | decide | (exact ⟨by decide, rfl, by decide⟩)) (by first | assumption | (exact mL_get (by decide)) | (rw [mL_len]; decide) | (simp only [mL_set]; exact mL_get (by decide)) | (simp only [mL_set, mL_len]; decide) | (exact va_eq) | (exact (va_ne (by omega)).trans (by assumption)) | (exact (va_ne (by omega)).trans va_eq) | (exact (va_ne (by omega)).trans ((va_ne (by omega)).trans (by assumption))) | (exact (va_ne (by omega)).trans ((va_ne (by omega)).trans ((va_ne (by omega)).trans (by assumption)))) | rfl | (exact Or.inl rfl) | (exact Or.inr rfl) | omega | (exact Nat.le_of_ble_eq_true rfl) | decide | (exact ⟨by decide, rfl, by decide⟩)) (by first | assumption | (exact mL_get (by decide)) | (rw [mL_len]; decide) | (simp only [mL_set]; exact mL_get (by decide)) | (simp only [mL_set, mL_len]; decide) | (exact va_eq) | (exact (va_ne (by omega)).trans (by assumption)) | (exact (va_ne (by omega)).trans va_eq) | (exact (va_ne (by omega)).trans ((va_ne (by omega)).trans (by assumption))) | (exact (va_ne (by omega)).trans ((va_ne (by omega)).trans ((va_ne (by omega)).trans (by assumption)))) | rfl | (exact Or.inl rfl) | (exact Or.inr rfl) | omega | (exact Nat.le_of_ble_eq_true rfl) | decide | (exact ⟨by decide, rfl, by decide⟩)) (by first | assumption | (exact mL_get (by decide)) | (rw [mL_len]; decide) | (simp only [mL_set]; exact mL_get (by decide)) | (simp only [mL_set, mL_len]; decide) | (exact va_eq) | (exact (va_ne (by omega)).trans (by assumption)) | (exact (va_ne (by omega)).trans va_eq) | (exact (va_ne (by omega)).trans ((va_ne (by omega)).trans (by assumption))) | (exact (va_ne (by omega)).trans ((va_ne (by omega)).trans ((va_ne (by omega)).trans (by assumption)))) | rfl | (exact Or.inl rfl) | (exact Or.inr rfl) | omega | (exact Nat.le_of_ble_eq_true rfl) | decide | (exact ⟨by decide, rfl, by decide⟩)) ?_
    rw [h9]
    refine sq_bad hn hz (fun z' a1 => ?_)
    refine b_155_19 _ _ _ (by first | assumption | (exact mL_get (by decide)) | (rw [mL_len]; decide) | (simp only [mL_set]; exact mL_get (by decide)) | (simp only [mL_set, mL_len]; decide) | (exact va_eq) | (exact (va_ne (by omega)).trans (by assumption)) | (exact (va_ne (by omega)).trans va_eq) | (exact (va_ne (by omega)).trans ((va_ne (by omega)).trans (by assumption))) | (exact (va_ne (by omega)).trans ((va_ne (by omega)).trans ((va_ne (by omega)).trans (by assumption)))) | rfl | (exact Or.inl rfl) | (exact Or.inr rfl) | omega | (exact Nat.le_of_ble_eq_true rfl) | decide | (exact ⟨by decide, rfl, by decide⟩)) ?_
    refine k0 z' _ ?_ a1
    unfold ms_need
    rw [if_neg h]
    exact rfl
  · intro h
    exact absurd rfl h
end
