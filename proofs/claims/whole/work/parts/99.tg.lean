/-! the second object's reading: names -/
theorem mu_eq {f : Nat → Int32} {k : Nat} {x : Int32} : upd f k x k = x := by simp [upd]
theorem mu_ne {f : Nat → Int32} {k j : Nat} {x : Int32} (h : ¬ j = k) : upd f k x j = f j := by simp [upd, h]
theorem mu_Leq {f : Nat → Int64} {k : Nat} {x : Int64} : vp_updL f k x k = x := by simp [vp_updL]
theorem mu_Lne {f : Nat → Int64} {k j : Nat} {x : Int64} (h : ¬ j = k) : vp_updL f k x j = f j := by simp [vp_updL, h]
theorem ms_fd_le {g : Nat → Int32} {a b : Nat} {tb : Nat → Nat × Nat} : ∀ (t i : Nat), i ≤ ms_fd g a b tb t i ∧ ms_fd g a b tb t i ≤ i + t := by
  intro t
  induction t with
  | zero => intro i; exact ⟨Nat.le_refl _, Nat.le_refl _⟩
  | succ t ih =>
    intro i
    unfold ms_fd
    split
    · omega
    · have := ih (i + 1)
      omega
theorem ms_fh_le {g : Nat → Int32} {a m p : Nat} {tb : Nat → Nat × Nat × Nat} : ∀ (t i : Nat), i ≤ ms_fh g a m p tb t i ∧ ms_fh g a m p tb t i ≤ i + t := by
  intro t
  induction t with
  | zero => intro i; exact ⟨Nat.le_refl _, Nat.le_refl _⟩
  | succ t ih =>
    intro i
    unfold ms_fh
    split
    · omega
    · have := ih (i + 1)
      omega
def mr_nt (I : Nat → Nat → Int32) (pa ps c a m : Nat) : Nat → Nat → Int32 := va_up (va_up I pa (upd (I pa) c (Int32.ofNat a))) ps (upd (I ps) c (Int32.ofNat m))
section
variable {d n sl k : Nat} {z : mr_Z} {σ : ms_S} {s : Value} {Q : (Option Value ⊕ Nat) → mi_H → Prop} {g : Nat → Int32} {L : Nat}
theorem sq_nm22 {pa ps c m : Nat} {tb : Nat → Nat × Nat} (hn : 575 ≤ n) (hz : mr_st n s g L z σ k) (hpa : (pa, m) ∈ mr_ai) (hps : (ps, m) ∈ mr_ai) (hm : m ≤ 8) (hc : c ≤ m) (ht : mr_tab z.I pa ps c tb) : ∀ (t i : Nat), i + t = c → mi_W (d + 1) 160 49 [some (.ref 505), some (.ref pa), some (.ref ps), some (.int (Int32.ofNat c)), some (.int (Int32.ofNat m)), some (.int (Int32.ofNat (ms_fd g σ.t.a σ.t.b tb t i)))] [] (n, sl, z.f) Q → mi_W (d + 1) 160 22 [some (.ref 505), some (.ref pa), some (.ref ps), some (.int (Int32.ofNat c)), some (.int (Int32.ofNat m)), some (.int (Int32.ofNat i))] [] (n, sl, z.f) Q := by
  have hB := hz.1
  have q505 := hB.1
  have qa := hB.2.1 (pa, m) hpa
  have qs := hB.2.1 (ps, m) hps
  have hfa := mr_ai_far _ hpa
  have hfs := mr_ai_far _ hps
  have hla : pa < n := by omega
  have hls : ps < n := by omega
  have hT := hz.2.2.1
  have hle := hT.le
  intro t
  induction t with
  | zero =>
    intro i hi K
    refine b_160_22 _ _ _ ?_ ?_
    · intro _
      exact K
    · intro h
      exact absurd ((of_le (by omega) (by omega)).mpr (by omega)) h
  | succ t ih =>
    intro i hi K
    have hx1 := ix_of (w := i) (m := m) (by omega) (by omega)
    obtain ⟨t1, t2, t3⟩ := ht i (by omega)
    refine b_160_22 _ _ _ ?_ ?_
    · intro h
      have := (of_le (by omega) (by omega)).mp h
      omega
    · intro _
      refine b_160_28 _ _ _ _ _ _ _ _ _ (by first | assumption | (exact mL_get (by decide)) | (rw [mL_len]; decide) | (simp only [mL_set]; exact mL_get (by decide)) | (simp only [mL_set, mL_len]; decide) | (exact va_eq) | (exact (va_ne (by omega)).trans (by assumption)) | (exact (va_ne (by omega)).trans va_eq) | (exact (va_ne (by omega)).trans ((va_ne (by omega)).trans (by assumption))) | (exact (va_ne (by omega)).trans ((va_ne (by omega)).trans ((va_ne (by omega)).trans (by assumption)))) | rfl | (exact Or.inl rfl) | (exact Or.inr rfl) | omega | (exact Nat.le_of_ble_eq_true rfl) | decide | (exact ⟨by decide, rfl, by decide⟩)) (by first | assumption | (exact mL_get (by decide)) | (rw [mL_len]; decide) | (simp only [mL_set]; exact mL_get (by decide)) | (simp only [mL_set, mL_len]; decide) | (exact va_eq) | (exact (va_ne (by omega)).trans (by assumption)) | (exact (va_ne (by omega)).trans va_eq) | (exact (va_ne (by omega)).trans ((va_ne (by omega)).trans (by assumption))) | (exact (va_ne (by omega)).trans ((va_ne (by omega)).trans ((va_ne (by omega)).trans (by assumption)))) | rfl | (exact Or.inl rfl) | (exact Or.inr rfl) | omega | (exact Nat.le_of_ble_eq_true rfl) | decide | (exact ⟨by decide, rfl, by decide⟩)) (by first | assumption | (exact mL_get (by decide)) | (rw [mL_len]; decide) | (simp only [mL_set]; exact mL_get (by decide)) | (simp only [mL_set, mL_len]; decide) | (exact va_eq) | (exact (va_ne (by omega)).trans (by assumption)) | (exact (va_ne (by omega)).trans va_eq) | (exact (va_ne (by omega)).trans ((va_ne (by omega)).trans (by assumption))) | (exact (va_ne (by omega)).trans ((va_ne (by omega)).trans ((va_ne (by omega)).trans (by assumption)))) | rfl | (exact Or.inl rfl) | (exact Or.inr rfl) | omega | (exact Nat.le_of_ble_eq_true rfl) | decide | (exact ⟨by decide, rfl, by decide⟩)) (by first | assumption | (exact mL_get (by decide)) | (rw [mL_len]; decide) | (simp only [mL_set]; exact mL_get (by decide)) | (simp only [mL_set, mL_len]; decide) | (exact va_eq) | (exact (va_ne (by omega)).trans (by assumption)) | (exact (va_ne (by omega)).trans va_eq) | (exact (va_ne (by omega)).trans ((va_ne (by omega)).trans (by assumption))) | (exact (va_ne (by omega)).trans ((va_ne (by omega)).trans ((va_ne (by omega)).trans (by assumption)))) | rfl | (exact Or.inl rfl) | (exact Or.inr rfl) | omega | (exact Nat.le_of_ble_eq_true rfl) | decide | (exact ⟨by decide, rfl, by decide⟩)) (by first | assumption | (exact mL_get (by decide)) | (rw [mL_len]; decide) | (simp only [mL_set]; exact mL_get (by decide)) | (simp only [mL_set, mL_len]; decide) | (exact va_eq) | (exact (va_ne (by omega)).trans (by assumption)) | (exact (va_ne (by omega)).trans va_eq) | (exact (va_ne (by omega)).trans ((va_ne (by omega)).trans (by assumption))) | (exact (va_ne (by omega)).trans ((va_ne (by omega)).trans ((va_ne (by omega)).trans (by assumption)))) | rfl | (exact Or.inl rfl) | (exact Or.inr rfl) | omega | (exact Nat.le_of_ble_eq_true rfl) | decide | (exact ⟨by decide, rfl, by decide⟩)) (by first | assumption | (exact mL_get (by decide)) | (rw [mL_len]; decide) | (simp only [mL_set]; exact mL_get (by decide)) | (simp only [mL_set, mL_len]; decide) | (exact va_eq) | (exact (va_ne (by omega)).trans (by assumption)) | (exact (va_ne (by omega)).trans va_eq) | (exact (va_ne (by omega)).trans ((va_ne (by omega)).trans (by assumption))) | (exact (va_ne (by omega)).trans ((va_ne (by omega)).trans ((va_ne (by omega)).trans (by assumption)))) | rfl | (exact Or.inl rfl) | (exact Or.inr rfl) | omega | (exact Nat.le_of_ble_eq_true rfl) | decide | (exact ⟨by decide, rfl, by decide⟩)) (by first | assumption | (exact mL_get (by decide)) | (rw [mL_len]; decide) | (simp only [mL_set]; exact mL_get (by decide)) | (simp only [mL_set, mL_len]; decide) | (exact va_eq) | (exact (va_ne (by omega)).trans (by assumption)) | (exact (va_ne (by omega)).trans va_eq) | (exact (va_ne (by omega)).trans ((va_ne (by omega)).trans (by assumption))) | (exact (va_ne (by omega)).trans ((va_ne (by omega)).trans ((va_ne (by omega)).trans (by assumption)))) | rfl | (exact Or.inl rfl) | (exact Or.inr rfl) | omega | (exact Nat.le_of_ble_eq_true rfl) | decide | (exact ⟨by decide, rfl, by decide⟩)) (by first | assumption | (exact mL_get (by decide)) | (rw [mL_len]; decide) | (simp only [mL_set]; exact mL_get (by decide)) | (simp only [mL_set, mL_len]; decide) | (exact va_eq) | (exact (va_ne (by omega)).trans (by assumption)) | (exact (va_ne (by omega)).trans va_eq) | (exact (va_ne (by omega)).trans ((va_ne (by omega)).trans (by assumption))) | (exact (va_ne (by omega)).trans ((va_ne (by omega)).trans ((va_ne (by omega)).trans (by assumption)))) | rfl | (exact Or.inl rfl) | (exact Or.inr rfl) | omega | (exact Nat.le_of_ble_eq_true rfl) | decide | (exact ⟨by decide, rfl, by decide⟩)) ?_
      rw [show z.I (pa, m).1 i = z.I pa i from rfl, show z.I (ps, m).1 i = z.I ps i from rfl, t1, t2]
      unfold ms_fd at K
      refine sp_same hn hB t3 hle.1 (by omega) hT.2.2.2.2.1 hT.2.2.2.2.2.1 (fun h => ?_) (fun h => ?_)
      · rw [hT.1] at h
        rw [if_pos h] at K
        refine b_160_40 _ _ _ ?_ ?_
        · intro _
          exact K
        · intro h
          exact absurd (by decide) h
      · rw [hT.1] at h
        rw [if_neg h] at K
        refine b_160_40 _ _ _ ?_ ?_
        · intro h
          exact absurd rfl h
        · intro _
          refine b_160_43 _ _ _ ?_
          rw [of_succ]
          exact ih (i + 1) (by omega) K
theorem mr_nt_st {pa ps c a m w : Nat} (hz : mr_st n s g L z σ k) (hpa : (pa, w) ∈ mr_ai) (hps : (ps, w) ∈ mr_ai) (hne : ¬ pa = ps) (hr : 520 ≤ pa ∧ pa ≤ 528 ∧ 520 ≤ ps ∧ ps ≤ 528) (h1 : (pa = 520 ∧ ps = 521 ∧ c = σ.P.1) ∨ (pa = 522 ∧ ps = 523 ∧ c = σ.T.1) ∨ (pa = 524 ∧ ps = 525 ∧ c = σ.N.1)) : mr_st n s g L ⟨va_up (va_up z.f pa (.inl (0, w, .inl (upd (z.I pa) c (Int32.ofNat a))))) ps (.inl (0, w, .inl (upd (z.I ps) c (Int32.ofNat m)))), z.X, z.Y, mr_nt z.I pa ps c a m, z.J⟩ σ k ∧ mr_go z σ ⟨va_up (va_up z.f pa (.inl (0, w, .inl (upd (z.I pa) c (Int32.ofNat a))))) ps (.inl (0, w, .inl (upd (z.I ps) c (Int32.ofNat m)))), z.X, z.Y, mr_nt z.I pa ps c a m, z.J⟩ σ := by
  obtain ⟨hB, hK, hT, h3', h21, h22, h23, ⟨h24, hcp, hP⟩, ⟨h25, hct, hTt⟩, ⟨h27, hcx, hN⟩, h26, hch, hH⟩ := hz
  have hI : ∀ q, ¬ q = pa → ¬ q = ps → mr_nt z.I pa ps c a m q = z.I q := fun q e1 e2 => by unfold mr_nt; rw [va_ne e2, va_ne e1]
  have hIa : mr_nt z.I pa ps c a m pa = upd (z.I pa) c (Int32.ofNat a) := by unfold mr_nt; rw [va_ne hne, va_eq]
  have hIs : mr_nt z.I pa ps c a m ps = upd (z.I ps) c (Int32.ofNat m) := by unfold mr_nt; rw [va_eq]
  have hlo : ∀ q i, (¬ q = pa ∧ ¬ q = ps) ∨ i < c → mr_nt z.I pa ps c a m q i = z.I q i := by
    intro q i hq
    by_cases e1 : q = pa
    · subst e1
      rw [hIa]
      rcases hq with hq | hq
      · exact absurd rfl hq.1
      · exact mu_ne (by omega)
    · by_cases e2 : q = ps
      · subst e2
        rw [hIs]
        rcases hq with hq | hq
        · exact absurd rfl hq.2
        · exact mu_ne (by omega)
      · rw [hI q e1 e2]
  refine ⟨⟨(hB.i hpa).i hps, hK.to (fun q hq => ?_), ?_, h3', h21, h22, h23, ⟨h24, hcp, fun i hi => ?_⟩, ⟨h25, hct, fun i hi => ?_⟩, ⟨h27, hcx, fun i hi => ?_⟩, h26, hch, fun i hi => ?_⟩, ⟨Nat.le_refl _, Nat.le_refl _, fun _ _ => rfl, fun _ _ => rfl⟩, ⟨fun _ _ => rfl, fun _ _ => rfl, fun q hq => hI q (by omega) (by omega), fun _ _ => rfl, fun q hq => ?_⟩, fun q i hq _ => hlo q i (Or.inl (by omega)), fun _ _ => rfl, fun _ _ => ⟨rfl, rfl⟩⟩
  · show va_up _ _ _ q = _
    rw [va_ne (by omega), va_ne (by omega)]
  · obtain ⟨e1, e2⟩ := hT
    exact ⟨(hI _ (by omega) (by omega)).trans e1, e2⟩
  · have := hP i hi
    rw [← hlo 520 i (by omega), ← hlo 521 i (by omega)] at this
    exact this
  · have := hTt i hi
    rw [← hlo 522 i (by omega), ← hlo 523 i (by omega)] at this
    exact this
  · have := hN i hi
    rw [← hlo 524 i (by omega), ← hlo 525 i (by omega)] at this
    exact this
  · have := hH i hi
    rw [← hI 526 (by omega) (by omega), ← hI 527 (by omega) (by omega), ← hI 528 (by omega) (by omega)] at this
    exact this
  · show va_up _ _ _ q = _
    unfold mr_far at hq
    rw [va_ne (by omega), va_ne (by omega)]
theorem sq_named {pa ps c m : Nat} {tb : Nat → Nat × Nat} (hn : 575 ≤ n) (hz : mr_st n s g L z σ k) (hpa : (pa, m) ∈ mr_ai) (hps : (ps, m) ∈ mr_ai) (hne : ¬ pa = ps) (hr : 520 ≤ pa ∧ pa ≤ 528 ∧ 520 ≤ ps ∧ ps ≤ 528) (hm : m ≤ 8) (hc : c ≤ m) (ht : mr_tab z.I pa ps c tb) (h1 : (pa = 520 ∧ ps = 521 ∧ c = σ.P.1) ∨ (pa = 522 ∧ ps = 523 ∧ c = σ.T.1) ∨ (pa = 524 ∧ ps = 525 ∧ c = σ.N.1)) (k1 : ∀ z' i, σ.t.k = 38 → i = ms_fd g σ.t.a σ.t.b tb c 0 → ¬ i = m → i ≤ c → ¬ (σ.nx g L).t.k = 40 → mr_st n s g L z' (σ.nx g L) k → mr_go z σ z' (σ.nx g L) → (i = c → z'.I pa c = Int32.ofNat σ.t.a ∧ z'.I ps c = Int32.ofNat (σ.t.b - σ.t.a)) → Q (.inl (some (.int (Int32.ofNat i)))) (n, sl, z'.f)) (k0 : ∀ z' w, (w = σ.t.a ∧ (¬ σ.t.k = 38 ∨ ms_fd g σ.t.a σ.t.b tb c 0 = m) ∨ σ.t.k = 38 ∧ ¬ ms_fd g σ.t.a σ.t.b tb c 0 = m ∧ (σ.nx g L).t.k = 40 ∧ w = (σ.nx g L).t.a) → mr_er n s z z' w → Q (.inl (some (.int (-1)))) (n, sl, z'.f)) : mi_W (d + 1 + 1 + 1 + 1 + 1 + 1) 160 0 (mi_en 6 [.ref 505, .ref pa, .ref ps, .int (Int32.ofNat c), .int (Int32.ofNat m)]) [] (n, sl, z.f) Q := by
  have hB := hz.1
  have q505 := hB.1
  have qa := hB.2.1 (pa, m) hpa
  have qs := hB.2.1 (ps, m) hps
  have hfa := mr_ai_far _ hpa
  have hfs := mr_ai_far _ hps
  have hla : pa < n := by omega
  have hls : ps < n := by omega
  have hT := hz.2.2.1
  have hle := hT.le
  have h9 := hT.2.2.2.2.1
  have h10 := hT.2.2.2.2.2.1
  have h8 := hT.2.2.2.1
  have hk38 : z.X 8 = 1 ↔ σ.t.k = 38 := by
    rw [h8]
    unfold ms_ct
    constructor
    · intro h
      repeat' split at h
      all_goals first | assumption | (exact absurd h (by decide))
    · intro h
      rw [h]
      rfl
  have hfd := ms_fd_le (g := g) (a := σ.t.a) (b := σ.t.b) (tb := tb) c 0
  refine b_160_0 _ _ _ (by first | assumption | (exact mL_get (by decide)) | (rw [mL_len]; decide) | (simp only [mL_set]; exact mL_get (by decide)) | (simp only [mL_set, mL_len]; decide) | (exact va_eq) | (exact (va_ne (by omega)).trans (by assumption)) | (exact (va_ne (by omega)).trans va_eq) | (exact (va_ne (by omega)).trans ((va_ne (by omega)).trans (by assumption))) | (exact (va_ne (by omega)).trans ((va_ne (by omega)).trans ((va_ne (by omega)).trans (by assumption)))) | rfl | (exact Or.inl rfl) | (exact Or.inr rfl) | omega | (exact Nat.le_of_ble_eq_true rfl) | decide | (exact ⟨by decide, rfl, by decide⟩)) (by first | assumption | (exact mL_get (by decide)) | (rw [mL_len]; decide) | (simp only [mL_set]; exact mL_get (by decide)) | (simp only [mL_set, mL_len]; decide) | (exact va_eq) | (exact (va_ne (by omega)).trans (by assumption)) | (exact (va_ne (by omega)).trans va_eq) | (exact (va_ne (by omega)).trans ((va_ne (by omega)).trans (by assumption))) | (exact (va_ne (by omega)).trans ((va_ne (by omega)).trans ((va_ne (by omega)).trans (by assumption)))) | rfl | (exact Or.inl rfl) | (exact Or.inr rfl) | omega | (exact Nat.le_of_ble_eq_true rfl) | decide | (exact ⟨by decide, rfl, by decide⟩)) (by first | assumption | (exact mL_get (by decide)) | (rw [mL_len]; decide) | (simp only [mL_set]; exact mL_get (by decide)) | (simp only [mL_set, mL_len]; decide) | (exact va_eq) | (exact (va_ne (by omega)).trans (by assumption)) | (exact (va_ne (by omega)).trans va_eq) | (exact (va_ne (by omega)).trans ((va_ne (by omega)).trans (by assumption))) | (exact (va_ne (by omega)).trans ((va_ne (by omega)).trans ((va_ne (by omega)).trans (by assumption)))) | rfl | (exact Or.inl rfl) | (exact Or.inr rfl) | omega | (exact Nat.le_of_ble_eq_true rfl) | decide | (exact ⟨by decide, rfl, by decide⟩)) ?_ ?_
  · intro h
    have hw := hk38.mp h
    refine b_160_19 _ _ _ ?_
    refine sq_nm22 hn hz hpa hps hm hc ht c 0 (by omega) ?_
    generalize hi : ms_fd g σ.t.a σ.t.b tb c 0 = i at k1 k0 hfd
    refine b_160_49 _ _ _ ?_ ?_
    · intro h
      have him : ¬ i = m := fun e => h (by rw [e])
      have hlast : ∀ z1, mr_st n s g L z1 σ k → mr_go z σ z1 σ → (i = c → z1.I pa c = Int32.ofNat σ.t.a ∧ z1.I ps c = Int32.ofNat (σ.t.b - σ.t.a)) → mi_W (d + 1 + 1 + 1 + 1 + 1 + 1) 160 94 [some (.ref 505), some (.ref pa), some (.ref ps), some (.int (Int32.ofNat c)), some (.int (Int32.ofNat m)), some (.int (Int32.ofNat i))] [] (n, sl, z1.f) Q := by
        intro z1 hz1 hgo hic
        have q505 := hz1.1.1
        refine b_160_94 _ _ _ (by first | assumption | (exact mL_get (by decide)) | (rw [mL_len]; decide) | (simp only [mL_set]; exact mL_get (by decide)) | (simp only [mL_set, mL_len]; decide) | (exact va_eq) | (exact (va_ne (by omega)).trans (by assumption)) | (exact (va_ne (by omega)).trans va_eq) | (exact (va_ne (by omega)).trans ((va_ne (by omega)).trans (by assumption))) | (exact (va_ne (by omega)).trans ((va_ne (by omega)).trans ((va_ne (by omega)).trans (by assumption)))) | rfl | (exact Or.inl rfl) | (exact Or.inr rfl) | omega | (exact Nat.le_of_ble_eq_true rfl) | decide | (exact ⟨by decide, rfl, by decide⟩)) (by first | assumption | (exact mL_get (by decide)) | (rw [mL_len]; decide) | (simp only [mL_set]; exact mL_get (by decide)) | (simp only [mL_set, mL_len]; decide) | (exact va_eq) | (exact (va_ne (by omega)).trans (by assumption)) | (exact (va_ne (by omega)).trans va_eq) | (exact (va_ne (by omega)).trans ((va_ne (by omega)).trans (by assumption))) | (exact (va_ne (by omega)).trans ((va_ne (by omega)).trans ((va_ne (by omega)).trans (by assumption)))) | rfl | (exact Or.inl rfl) | (exact Or.inr rfl) | omega | (exact Nat.le_of_ble_eq_true rfl) | decide | (exact ⟨by decide, rfl, by decide⟩)) ?_
        refine sq_next hn hz1 (fun z' h40 a1 a2 a3 a4 => ?_) (fun z' h40 a1 => ?_)
        · refine b_160_98 _ _ _ ?_ ?_
          · intro h
            exact absurd h (by decide)
          · intro _
            refine b_160_101 _ _ _ ?_
            refine b_160_107 _ _ _ ?_
            refine k1 z' i hw rfl him (by omega) h40 a1 (hgo.trans a2) ?_
            rw [a3]
            exact hic
        · refine b_160_98 _ _ _ ?_ ?_
          · intro _
            refine b_160_106 _ _ _ ?_
            refine b_160_107 _ _ _ ?_
            exact k0 z' _ (Or.inr ⟨hw, him, h40, rfl⟩) (hgo.er a1)
          · intro h
            exact absurd rfl h
      refine b_160_67 _ _ _ ?_ ?_
      · intro h
        have hic : ¬ i = c := fun e => h (by rw [e])
        exact hlast z hz mr_go.re (fun e => absurd e hic)
      · intro h
        have hic : i = c := (of_eq (by omega) (by omega)).mp (Classical.not_not.mp h)
        have hx1 := ix_of (w := i) (m := m) (by omega) (by omega)
        have hst := mr_nt_st (c := c) (a := σ.t.a) (m := σ.t.b - σ.t.a) hz hpa hps hne hr h1
        subst hic
        have e1 : z.X 10 - z.X 9 = Int32.ofNat (σ.t.b - σ.t.a) := by rw [h9, h10, of_sub' hle.1]
        refine b_160_73 _ _ _ _ _ _ _ _ _ (by first | assumption | (exact mL_get (by decide)) | (rw [mL_len]; decide) | (simp only [mL_set]; exact mL_get (by decide)) | (simp only [mL_set, mL_len]; decide) | (exact va_eq) | (exact (va_ne (by omega)).trans (by assumption)) | (exact (va_ne (by omega)).trans va_eq) | (exact (va_ne (by omega)).trans ((va_ne (by omega)).trans (by assumption))) | (exact (va_ne (by omega)).trans ((va_ne (by omega)).trans ((va_ne (by omega)).trans (by assumption)))) | rfl | (exact Or.inl rfl) | (exact Or.inr rfl) | omega | (exact Nat.le_of_ble_eq_true rfl) | decide | (exact ⟨by decide, rfl, by decide⟩)) (by first | assumption | (exact mL_get (by decide)) | (rw [mL_len]; decide) | (simp only [mL_set]; exact mL_get (by decide)) | (simp only [mL_set, mL_len]; decide) | (exact va_eq) | (exact (va_ne (by omega)).trans (by assumption)) | (exact (va_ne (by omega)).trans va_eq) | (exact (va_ne (by omega)).trans ((va_ne (by omega)).trans (by assumption))) | (exact (va_ne (by omega)).trans ((va_ne (by omega)).trans ((va_ne (by omega)).trans (by assumption)))) | rfl | (exact Or.inl rfl) | (exact Or.inr rfl) | omega | (exact Nat.le_of_ble_eq_true rfl) | decide | (exact ⟨by decide, rfl, by decide⟩)) (by first | assumption | (exact mL_get (by decide)) | (rw [mL_len]; decide) | (simp only [mL_set]; exact mL_get (by decide)) | (simp only [mL_set, mL_len]; decide) | (exact va_eq) | (exact (va_ne (by omega)).trans (by assumption)) | (exact (va_ne (by omega)).trans va_eq) | (exact (va_ne (by omega)).trans ((va_ne (by omega)).trans (by assumption))) | (exact (va_ne (by omega)).trans ((va_ne (by omega)).trans ((va_ne (by omega)).trans (by assumption)))) | rfl | (exact Or.inl rfl) | (exact Or.inr rfl) | omega | (exact Nat.le_of_ble_eq_true rfl) | decide | (exact ⟨by decide, rfl, by decide⟩)) (by first | assumption | (exact mL_get (by decide)) | (rw [mL_len]; decide) | (simp only [mL_set]; exact mL_get (by decide)) | (simp only [mL_set, mL_len]; decide) | (exact va_eq) | (exact (va_ne (by omega)).trans (by assumption)) | (exact (va_ne (by omega)).trans va_eq) | (exact (va_ne (by omega)).trans ((va_ne (by omega)).trans (by assumption))) | (exact (va_ne (by omega)).trans ((va_ne (by omega)).trans ((va_ne (by omega)).trans (by assumption)))) | rfl | (exact Or.inl rfl) | (exact Or.inr rfl) | omega | (exact Nat.le_of_ble_eq_true rfl) | decide | (exact ⟨by decide, rfl, by decide⟩)) (by first | assumption | (exact mL_get (by decide)) | (rw [mL_len]; decide) | (simp only [mL_set]; exact mL_get (by decide)) | (simp only [mL_set, mL_len]; decide) | (exact va_eq) | (exact (va_ne (by omega)).trans (by assumption)) | (exact (va_ne (by omega)).trans va_eq) | (exact (va_ne (by omega)).trans ((va_ne (by omega)).trans (by assumption))) | (exact (va_ne (by omega)).trans ((va_ne (by omega)).trans ((va_ne (by omega)).trans (by assumption)))) | rfl | (exact Or.inl rfl) | (exact Or.inr rfl) | omega | (exact Nat.le_of_ble_eq_true rfl) | decide | (exact ⟨by decide, rfl, by decide⟩)) (by first | assumption | (exact mL_get (by decide)) | (rw [mL_len]; decide) | (simp only [mL_set]; exact mL_get (by decide)) | (simp only [mL_set, mL_len]; decide) | (exact va_eq) | (exact (va_ne (by omega)).trans (by assumption)) | (exact (va_ne (by omega)).trans va_eq) | (exact (va_ne (by omega)).trans ((va_ne (by omega)).trans (by assumption))) | (exact (va_ne (by omega)).trans ((va_ne (by omega)).trans ((va_ne (by omega)).trans (by assumption)))) | rfl | (exact Or.inl rfl) | (exact Or.inr rfl) | omega | (exact Nat.le_of_ble_eq_true rfl) | decide | (exact ⟨by decide, rfl, by decide⟩)) (by first | assumption | (exact mL_get (by decide)) | (rw [mL_len]; decide) | (simp only [mL_set]; exact mL_get (by decide)) | (simp only [mL_set, mL_len]; decide) | (exact va_eq) | (exact (va_ne (by omega)).trans (by assumption)) | (exact (va_ne (by omega)).trans va_eq) | (exact (va_ne (by omega)).trans ((va_ne (by omega)).trans (by assumption))) | (exact (va_ne (by omega)).trans ((va_ne (by omega)).trans ((va_ne (by omega)).trans (by assumption)))) | rfl | (exact Or.inl rfl) | (exact Or.inr rfl) | omega | (exact Nat.le_of_ble_eq_true rfl) | decide | (exact ⟨by decide, rfl, by decide⟩)) (by first | assumption | (exact mL_get (by decide)) | (rw [mL_len]; decide) | (simp only [mL_set]; exact mL_get (by decide)) | (simp only [mL_set, mL_len]; decide) | (exact va_eq) | (exact (va_ne (by omega)).trans (by assumption)) | (exact (va_ne (by omega)).trans va_eq) | (exact (va_ne (by omega)).trans ((va_ne (by omega)).trans (by assumption))) | (exact (va_ne (by omega)).trans ((va_ne (by omega)).trans ((va_ne (by omega)).trans (by assumption)))) | rfl | (exact Or.inl rfl) | (exact Or.inr rfl) | omega | (exact Nat.le_of_ble_eq_true rfl) | decide | (exact ⟨by decide, rfl, by decide⟩)) (by first | assumption | (exact mL_get (by decide)) | (rw [mL_len]; decide) | (simp only [mL_set]; exact mL_get (by decide)) | (simp only [mL_set, mL_len]; decide) | (exact va_eq) | (exact (va_ne (by omega)).trans (by assumption)) | (exact (va_ne (by omega)).trans va_eq) | (exact (va_ne (by omega)).trans ((va_ne (by omega)).trans (by assumption))) | (exact (va_ne (by omega)).trans ((va_ne (by omega)).trans ((va_ne (by omega)).trans (by assumption)))) | rfl | (exact Or.inl rfl) | (exact Or.inr rfl) | omega | (exact Nat.le_of_ble_eq_true rfl) | decide | (exact ⟨by decide, rfl, by decide⟩)) (by first | assumption | (exact mL_get (by decide)) | (rw [mL_len]; decide) | (simp only [mL_set]; exact mL_get (by decide)) | (simp only [mL_set, mL_len]; decide) | (exact va_eq) | (exact (va_ne (by omega)).trans (by assumption)) | (exact (va_ne (by omega)).trans va_eq) | (exact (va_ne (by omega)).trans ((va_ne (by omega)).trans (by assumption))) | (exact (va_ne (by omega)).trans ((va_ne (by omega)).trans ((va_ne (by omega)).trans (by assumption)))) | rfl | (exact Or.inl rfl) | (exact Or.inr rfl) | omega | (exact Nat.le_of_ble_eq_true rfl) | decide | (exact ⟨by decide, rfl, by decide⟩)) (by first | assumption | (exact mL_get (by decide)) | (rw [mL_len]; decide) | (simp only [mL_set]; exact mL_get (by decide)) | (simp only [mL_set, mL_len]; decide) | (exact va_eq) | (exact (va_ne (by omega)).trans (by assumption)) | (exact (va_ne (by omega)).trans va_eq) | (exact (va_ne (by omega)).trans ((va_ne (by omega)).trans (by assumption))) | (exact (va_ne (by omega)).trans ((va_ne (by omega)).trans ((va_ne (by omega)).trans (by assumption)))) | rfl | (exact Or.inl rfl) | (exact Or.inr rfl) | omega | (exact Nat.le_of_ble_eq_true rfl) | decide | (exact ⟨by decide, rfl, by decide⟩)) (by first | assumption | (exact mL_get (by decide)) | (rw [mL_len]; decide) | (simp only [mL_set]; exact mL_get (by decide)) | (simp only [mL_set, mL_len]; decide) | (exact va_eq) | (exact (va_ne (by omega)).trans (by assumption)) | (exact (va_ne (by omega)).trans va_eq) | (exact (va_ne (by omega)).trans ((va_ne (by omega)).trans (by assumption))) | (exact (va_ne (by omega)).trans ((va_ne (by omega)).trans ((va_ne (by omega)).trans (by assumption)))) | rfl | (exact Or.inl rfl) | (exact Or.inr rfl) | omega | (exact Nat.le_of_ble_eq_true rfl) | decide | (exact ⟨by decide, rfl, by decide⟩)) (by first | assumption | (exact mL_get (by decide)) | (rw [mL_len]; decide) | (simp only [mL_set]; exact mL_get (by decide)) | (simp only [mL_set, mL_len]; decide) | (exact va_eq) | (exact (va_ne (by omega)).trans (by assumption)) | (exact (va_ne (by omega)).trans va_eq) | (exact (va_ne (by omega)).trans ((va_ne (by omega)).trans (by assumption))) | (exact (va_ne (by omega)).trans ((va_ne (by omega)).trans ((va_ne (by omega)).trans (by assumption)))) | rfl | (exact Or.inl rfl) | (exact Or.inr rfl) | omega | (exact Nat.le_of_ble_eq_true rfl) | decide | (exact ⟨by decide, rfl, by decide⟩)) (by first | assumption | (exact mL_get (by decide)) | (rw [mL_len]; decide) | (simp only [mL_set]; exact mL_get (by decide)) | (simp only [mL_set, mL_len]; decide) | (exact va_eq) | (exact (va_ne (by omega)).trans (by assumption)) | (exact (va_ne (by omega)).trans va_eq) | (exact (va_ne (by omega)).trans ((va_ne (by omega)).trans (by assumption))) | (exact (va_ne (by omega)).trans ((va_ne (by omega)).trans ((va_ne (by omega)).trans (by assumption)))) | rfl | (exact Or.inl rfl) | (exact Or.inr rfl) | omega | (exact Nat.le_of_ble_eq_true rfl) | decide | (exact ⟨by decide, rfl, by decide⟩)) (by first | assumption | (exact mL_get (by decide)) | (rw [mL_len]; decide) | (simp only [mL_set]; exact mL_get (by decide)) | (simp only [mL_set, mL_len]; decide) | (exact va_eq) | (exact (va_ne (by omega)).trans (by assumption)) | (exact (va_ne (by omega)).trans va_eq) | (exact (va_ne (by omega)).trans ((va_ne (by omega)).trans (by assumption))) | (exact (va_ne (by omega)).trans ((va_ne (by omega)).trans ((va_ne (by omega)).trans (by assumption)))) | rfl | (exact Or.inl rfl) | (exact Or.inr rfl) | omega | (exact Nat.le_of_ble_eq_true rfl) | decide | (exact ⟨by decide, rfl, by decide⟩)) ?_
        rw [e1, h9]
        refine hlast _ hst.1 hst.2 (fun _ => ?_)
        show mr_nt _ _ _ _ _ _ _ _ = _ ∧ mr_nt _ _ _ _ _ _ _ _ = _
        unfold mr_nt
        rw [va_ne hne, va_eq, va_eq]
        exact ⟨mu_eq, mu_eq⟩
    · intro h
      have him : i = m := (of_eq (by omega) (by omega)).mp (Classical.not_not.mp h)
      refine b_160_56 _ _ _ (by first | assumption | (exact mL_get (by decide)) | (rw [mL_len]; decide) | (simp only [mL_set]; exact mL_get (by decide)) | (simp only [mL_set, mL_len]; decide) | (exact va_eq) | (exact (va_ne (by omega)).trans (by assumption)) | (exact (va_ne (by omega)).trans va_eq) | (exact (va_ne (by omega)).trans ((va_ne (by omega)).trans (by assumption))) | (exact (va_ne (by omega)).trans ((va_ne (by omega)).trans ((va_ne (by omega)).trans (by assumption)))) | rfl | (exact Or.inl rfl) | (exact Or.inr rfl) | omega | (exact Nat.le_of_ble_eq_true rfl) | decide | (exact ⟨by decide, rfl, by decide⟩)) (by first | assumption | (exact mL_get (by decide)) | (rw [mL_len]; decide) | (simp only [mL_set]; exact mL_get (by decide)) | (simp only [mL_set, mL_len]; decide) | (exact va_eq) | (exact (va_ne (by omega)).trans (by assumption)) | (exact (va_ne (by omega)).trans va_eq) | (exact (va_ne (by omega)).trans ((va_ne (by omega)).trans (by assumption))) | (exact (va_ne (by omega)).trans ((va_ne (by omega)).trans ((va_ne (by omega)).trans (by assumption)))) | rfl | (exact Or.inl rfl) | (exact Or.inr rfl) | omega | (exact Nat.le_of_ble_eq_true rfl) | decide | (exact ⟨by decide, rfl, by decide⟩)) (by first | assumption | (exact mL_get (by decide)) | (rw [mL_len]; decide) | (simp only [mL_set]; exact mL_get (by decide)) | (simp only [mL_set, mL_len]; decide) | (exact va_eq) | (exact (va_ne (by omega)).trans (by assumption)) | (exact (va_ne (by omega)).trans va_eq) | (exact (va_ne (by omega)).trans ((va_ne (by omega)).trans (by assumption))) | (exact (va_ne (by omega)).trans ((va_ne (by omega)).trans ((va_ne (by omega)).trans (by assumption)))) | rfl | (exact Or.inl rfl) | (exact Or.inr rfl) | omega | (exact Nat.le_of_ble_eq_true rfl) | decide | (exact ⟨by decide, rfl, by decide⟩)) (by first | assumption | (exact mL_get (by decide)) | (rw [mL_len]; decide) | (simp only [mL_set]; exact mL_get (by decide)) | (simp only [mL_set, mL_len]; decide) | (exact va_eq) | (exact (va_ne (by omega)).trans (by assumption)) | (exact (va_ne (by omega)).trans va_eq) | (exact (va_ne (by omega)).trans ((va_ne (by omega)).trans (by assumption))) | (exact (va_ne (by omega)).trans ((va_ne (by omega)).trans ((va_ne (by omega)).trans (by assumption)))) | rfl | (exact Or.inl rfl) | (exact Or.inr rfl) | omega | (exact Nat.le_of_ble_eq_true rfl) | decide | (exact ⟨by decide, rfl, by decide⟩)) (by first | assumption | (exact mL_get (by decide)) | (rw [mL_len]; decide) | (simp only [mL_set]; exact mL_get (by decide)) | (simp only [mL_set, mL_len]; decide) | (exact va_eq) | (exact (va_ne (by omega)).trans (by assumption)) | (exact (va_ne (by omega)).trans va_eq) | (exact (va_ne (by omega)).trans ((va_ne (by omega)).trans (by assumption))) | (exact (va_ne (by omega)).trans ((va_ne (by omega)).trans ((va_ne (by omega)).trans (by assumption)))) | rfl | (exact Or.inl rfl) | (exact Or.inr rfl) | omega | (exact Nat.le_of_ble_eq_true rfl) | decide | (exact ⟨by decide, rfl, by decide⟩)) ?_
      rw [h9]
      refine sq_bad hn hz (fun z' a1 => ?_)
      refine b_160_64 _ _ _ ?_
      exact k0 z' _ (Or.inl ⟨rfl, Or.inr him⟩) a1
  · intro h
    have hw : ¬ σ.t.k = 38 := fun e => h (hk38.mpr e)
    refine b_160_8 _ _ _ (by first | assumption | (exact mL_get (by decide)) | (rw [mL_len]; decide) | (simp only [mL_set]; exact mL_get (by decide)) | (simp only [mL_set, mL_len]; decide) | (exact va_eq) | (exact (va_ne (by omega)).trans (by assumption)) | (exact (va_ne (by omega)).trans va_eq) | (exact (va_ne (by omega)).trans ((va_ne (by omega)).trans (by assumption))) | (exact (va_ne (by omega)).trans ((va_ne (by omega)).trans ((va_ne (by omega)).trans (by assumption)))) | rfl | (exact Or.inl rfl) | (exact Or.inr rfl) | omega | (exact Nat.le_of_ble_eq_true rfl) | decide | (exact ⟨by decide, rfl, by decide⟩)) (by first | assumption | (exact mL_get (by decide)) | (rw [mL_len]; decide) | (simp only [mL_set]; exact mL_get (by decide)) | (simp only [mL_set, mL_len]; decide) | (exact va_eq) | (exact (va_ne (by omega)).trans (by assumption)) | (exact (va_ne (by omega)).trans va_eq) | (exact (va_ne (by omega)).trans ((va_ne (by omega)).trans (by assumption))) | (exact (va_ne (by omega)).trans ((va_ne (by omega)).trans ((va_ne (by omega)).trans (by assumption)))) | rfl | (exact Or.inl rfl) | (exact Or.inr rfl) | omega | (exact Nat.le_of_ble_eq_true rfl) | decide | (exact ⟨by decide, rfl, by decide⟩)) (by first | assumption | (exact mL_get (by decide)) | (rw [mL_len]; decide) | (simp only [mL_set]; exact mL_get (by decide)) | (simp only [mL_set, mL_len]; decide) | (exact va_eq) | (exact (va_ne (by omega)).trans (by assumption)) | (exact (va_ne (by omega)).trans va_eq) | (exact (va_ne (by omega)).trans ((va_ne (by omega)).trans (by assumption))) | (exact (va_ne (by omega)).trans ((va_ne (by omega)).trans ((va_ne (by omega)).trans (by assumption)))) | rfl | (exact Or.inl rfl) | (exact Or.inr rfl) | omega | (exact Nat.le_of_ble_eq_true rfl) | decide | (exact ⟨by decide, rfl, by decide⟩)) (by first | assumption | (exact mL_get (by decide)) | (rw [mL_len]; decide) | (simp only [mL_set]; exact mL_get (by decide)) | (simp only [mL_set, mL_len]; decide) | (exact va_eq) | (exact (va_ne (by omega)).trans (by assumption)) | (exact (va_ne (by omega)).trans va_eq) | (exact (va_ne (by omega)).trans ((va_ne (by omega)).trans (by assumption))) | (exact (va_ne (by omega)).trans ((va_ne (by omega)).trans ((va_ne (by omega)).trans (by assumption)))) | rfl | (exact Or.inl rfl) | (exact Or.inr rfl) | omega | (exact Nat.le_of_ble_eq_true rfl) | decide | (exact ⟨by decide, rfl, by decide⟩)) (by first | assumption | (exact mL_get (by decide)) | (rw [mL_len]; decide) | (simp only [mL_set]; exact mL_get (by decide)) | (simp only [mL_set, mL_len]; decide) | (exact va_eq) | (exact (va_ne (by omega)).trans (by assumption)) | (exact (va_ne (by omega)).trans va_eq) | (exact (va_ne (by omega)).trans ((va_ne (by omega)).trans (by assumption))) | (exact (va_ne (by omega)).trans ((va_ne (by omega)).trans ((va_ne (by omega)).trans (by assumption)))) | rfl | (exact Or.inl rfl) | (exact Or.inr rfl) | omega | (exact Nat.le_of_ble_eq_true rfl) | decide | (exact ⟨by decide, rfl, by decide⟩)) ?_
    rw [h9]
    refine sq_bad hn hz (fun z' a1 => ?_)
    refine b_160_16 _ _ _ ?_
    exact k0 z' _ (Or.inl ⟨rfl, Or.inl hw⟩) a1
end
