/-! what a text gives: contracts are stretches -/
def sCq (C : ms_S → ms_R Unit) (k : Nat) : Prop := ∀ σ u σ', C σ = .ok (u, σ') → sFr σ σ' ∧ mo_c σ'.tb k σ.n σ'.n
section
variable {g : Nat → Int32} {L k m op : Nat} {σ σ' σ1 σ2 : ms_S}
theorem sFr.of (h : sEq σ σ1) : sFr σ σ1 := ⟨by rw [h.1]; exact Nat.le_refl _, fun i _ => by rw [h.2]⟩
theorem sA_ac {E : Bool → ms_S → ms_R Unit} {c : ms_N} (hE : sVp E k) (h : ms_ac g L E op σ = .ok (c, σ')) : sFr σ σ' ∧ ((c.1 = 8 ∧ σ'.n = σ.n) ∨ ((c.1 = 7 ∨ c.1 = 9) ∧ c.2.2.2.2.2.1 = σ.n ∧ mo_v σ'.tb k σ.n σ'.n)) := by
  unfold ms_ac at h
  split at h
  · obtain ⟨x1, σ1, h1, h2⟩ := ms_ebi h
    obtain ⟨x2, σ2, h3, h4⟩ := ms_ebi h2
    obtain ⟨x3, σ3, h5, h6⟩ := ms_ebi h4
    obtain ⟨x4, σ4, h7, h8⟩ := ms_ebi h6
    cases h8
    have e := ((sEq_pa h1).trans (sEq_pa h3)).trans (sEq_to h5)
    obtain ⟨f, v⟩ := hE _ _ _ _ h7
    exact ⟨(sFr.of e).trans f, Or.inr ⟨Or.inl rfl, e.1, by rw [← e.1]; exact v⟩⟩
  · obtain ⟨x1, σ1, h1, h2⟩ := ms_ebi h
    cases h2
    obtain ⟨f, v⟩ := hE _ _ _ _ h1
    exact ⟨f, Or.inr ⟨Or.inr rfl, rfl, v⟩⟩
  · obtain ⟨x1, σ1, h1, h2⟩ := ms_ebi h
    obtain ⟨x2, σ2, h3, h4⟩ := ms_ebi h2
    obtain ⟨x3, σ3, h5, h6⟩ := ms_ebi h4
    cases h6
    have e := ((sEq_hc h1).trans (sEq_need h3)).trans (sEq_bs L _ h5)
    exact ⟨sFr.of e, Or.inl ⟨rfl, e.1⟩⟩
theorem sA_as {E : Bool → ms_S → ms_R Unit} {C : ms_S → ms_R Unit} (hE : sVp E k) (hC : sCq C k) : ∀ (c : Nat) (σ : ms_S) (x : Nat), 0 < σ.n → ms_as g L E C c σ = .ok (x, σ') → sFr σ σ' ∧ mo_a σ'.tb (mo_v σ'.tb k) (mo_c σ'.tb k) c x σ.n σ'.n := by
  intro c
  induction c generalizing σ' with
  | zero =>
    intro σ x _ h
    unfold ms_as at h
    split at h
    · cases h
      exact ⟨sFr.re, rfl, rfl⟩
    · cases h
  | succ c ih =>
    intro σ x hpos h
    unfold ms_as at h
    split at h
    · cases h
      exact ⟨sFr.re, Or.inl ⟨rfl, rfl⟩⟩
    · cases ho : ms_oa σ.t.k with
      | none =>
        rw [ho] at h
        cases h
      | some op =>
        rw [ho] at h
        dsimp only at h
        split at h
        · cases h
        · obtain ⟨c1, σ1, h1, h2⟩ := ms_ebi h
          obtain ⟨u2, σ2, h3, h4⟩ := ms_ebi h2
          obtain ⟨z, σ3, h5, h6⟩ := ms_ebi h4
          obtain ⟨f1, a1⟩ := sA_ac hE h1
          obtain ⟨f2, c2⟩ := hC _ _ _ h3
          have n0 : (σ.add.nx g L).n = σ.n + 1 := rfl
          have n1 := f1.1
          have n2 := f2.1
          rw [n0] at n1
          obtain ⟨f3, a3⟩ := ih σ2 z (by omega) h5
          have n3 := f3.1
          have hq : x = σ.n ∧ σ3.set σ.n (c1.yz σ1.n z) = σ' := by
            injection h6 with h6
            injection h6 with h6 h7
            exact ⟨h6.symm, h7⟩
          obtain ⟨hx, hσ⟩ := hq
          have etb : σ'.tb = va_up σ3.tb σ.n (c1.yz σ1.n z) := by rw [← hσ]; rfl
          have en : σ'.n = σ3.n := by rw [← hσ]; rfl
          have f13 : ∀ i, i < σ.n + 1 → σ3.tb i = σ.tb i := fun i hi => ((f1.trans f2).trans f3).2 i (by rw [n0]; exact hi)
          refine ⟨⟨by omega, fun i hi => ?_⟩, ?_⟩
          · rw [etb, va_ne (by omega)]
            exact f13 i (by omega)
          · rw [etb, en]
            have erow : va_up σ3.tb σ.n (c1.yz σ1.n z) σ.n = c1.yz σ1.n z := va_eq
            refine Or.inr ⟨hx, hpos, ?_, σ2.n, ?_, ?_⟩
            · rw [erow]
              rcases a1 with ⟨a0, a1⟩ | ⟨a0, a1, a2⟩
              · exact Or.inl ⟨a0, a1⟩
              · refine Or.inr ⟨a0, a1, ?_⟩
                show mo_v (va_up σ3.tb σ.n (c1.yz σ1.n z)) k (σ.n + 1) σ1.n
                exact mo_v_set a2 (by omega) (fun i _ hi => (f2.trans f3).2 i hi)
            · rw [erow]
              show mo_c (va_up σ3.tb σ.n (c1.yz σ1.n z)) k σ1.n σ2.n
              exact mo_c_set c2 (by omega) (fun i _ hi => f3.2 i hi)
            · rw [erow]
              show mo_a (va_up σ3.tb σ.n (c1.yz σ1.n z)) (mo_v (va_up σ3.tb σ.n (c1.yz σ1.n z)) k) (mo_c (va_up σ3.tb σ.n (c1.yz σ1.n z)) k) c z σ2.n σ3.n
              refine mo_a_to (lo := 0) (mo_v_lt k) (mo_c_lt k) _ _ _ _ (fun i h1 h2 => va_ne (by omega)) (fun m' e' g1 g2 g => mo_v_to _ _ _ (fun i h1 h2 => va_ne (by omega)) g) (fun m' e' g1 g2 g => mo_c_to _ _ _ (fun i h1 h2 => va_ne (by omega)) g) a3
theorem sP_pt {E : Bool → ms_S → ms_R Unit} {C : ms_S → ms_R Unit} {u : Unit} (hE : sVp E k) (hC : sCq C k) (ho : op = 0 ∨ op = 1 ∨ op = 3 ∨ op = 4 ∨ op = 5 ∨ op = 6) (hm : σ.n = m + 1) (h : ms_pt g L E C op m σ = .ok (u, σ')) : σ.n ≤ σ'.n ∧ (∀ i, i < m → σ'.tb i = σ.tb i) ∧ mo_c σ'.tb (k + 1) m σ'.n := by
  have vc : ∀ {o A B D : Nat} {s : Bool} {u1 u2 : Unit} {σ0 σ1 σ2 : ms_S}, (o = 1 ∨ o = 2 ∨ o = 5 ∨ o = 6) → sEq σ σ0 → E s σ0 = .ok (u1, σ1) → C σ1 = .ok (u2, σ2) → σ.n ≤ (σ2.set m (o, A, B, D, 0, σ0.n, σ1.n, 0, 0, 0)).n ∧ (∀ i, i < m → (σ2.set m (o, A, B, D, 0, σ0.n, σ1.n, 0, 0, 0)).tb i = σ.tb i) ∧ mo_c (σ2.set m (o, A, B, D, 0, σ0.n, σ1.n, 0, 0, 0)).tb (k + 1) m (σ2.set m (o, A, B, D, 0, σ0.n, σ1.n, 0, 0, 0)).n := by
    intro o A B D s u1 u2 σ0 σ1 σ2 hoo e0 h1 h2
    obtain ⟨f1, v1⟩ := hE _ _ _ _ h1
    obtain ⟨f2, v2⟩ := hC _ _ _ h2
    have f := ((sFr.of e0).trans f1).trans f2
    have n0 : σ0.n = m + 1 := e0.1.trans hm
    have n1 := f1.1
    have n2 := f2.1
    have erow : va_up σ2.tb m (o, A, B, D, 0, σ0.n, σ1.n, 0, 0, 0) m = (o, A, B, D, 0, σ0.n, σ1.n, 0, 0, 0) := va_eq
    refine ⟨f.1, (sFr_set f (by omega)).2, Or.inr (Or.inl ⟨?_, ?_, ?_, ?_⟩)⟩
    · show (va_up σ2.tb m (o, A, B, D, 0, σ0.n, σ1.n, 0, 0, 0) m).1 = 1 ∨ (va_up σ2.tb m (o, A, B, D, 0, σ0.n, σ1.n, 0, 0, 0) m).1 = 2 ∨ (va_up σ2.tb m (o, A, B, D, 0, σ0.n, σ1.n, 0, 0, 0) m).1 = 5 ∨ (va_up σ2.tb m (o, A, B, D, 0, σ0.n, σ1.n, 0, 0, 0) m).1 = 6
      rw [erow]
      exact hoo
    · show (va_up σ2.tb m (o, A, B, D, 0, σ0.n, σ1.n, 0, 0, 0) m).2.2.2.2.2.1 = m + 1
      rw [erow]
      exact n0
    · show mo_v (va_up σ2.tb m (o, A, B, D, 0, σ0.n, σ1.n, 0, 0, 0)) k (m + 1) (va_up σ2.tb m (o, A, B, D, 0, σ0.n, σ1.n, 0, 0, 0) m).2.2.2.2.2.2.1
      rw [erow, ← n0]
      exact mo_v_set v1 (by omega) (fun i _ hi => f2.2 i hi)
    · show mo_c (va_up σ2.tb m (o, A, B, D, 0, σ0.n, σ1.n, 0, 0, 0)) k (va_up σ2.tb m (o, A, B, D, 0, σ0.n, σ1.n, 0, 0, 0) m).2.2.2.2.2.2.1 σ2.n
      rw [erow]
      exact mo_c_set v2 (by show m < σ1.n; omega) (fun _ _ _ => rfl)
  unfold ms_pt at h
  split at h
  · cases h
    refine ⟨Nat.le_refl _, fun i hi => va_ne (by omega), Or.inl ⟨?_, hm⟩⟩
    show (va_up σ.tb m _ m).1 = 0
    rw [va_eq]
  · obtain ⟨x1, σ1, h1, h2⟩ := ms_ebi h
    obtain ⟨x2, σ2, h3, h4⟩ := ms_ebi h2
    obtain ⟨x3, σ3, h5, h6⟩ := ms_ebi h4
    obtain ⟨x4, σ4, h7, h8⟩ := ms_ebi h6
    obtain ⟨x5, σ5, h9, h10⟩ := ms_ebi h8
    obtain ⟨x6, σ6, h11, h12⟩ := ms_ebi h10
    cases h12
    obtain ⟨e2, ho2⟩ := sEq_ti h3
    exact vc (by omega) ((((sEq_pa h1).trans e2).trans (sEq_pa h5)).trans (sEq_to h7)) h9 h11
  · obtain ⟨x1, σ1, h1, h2⟩ := ms_ebi h
    obtain ⟨x2, σ2, h3, h4⟩ := ms_ebi h2
    obtain ⟨x3, σ3, h5, h6⟩ := ms_ebi h4
    cases h6
    obtain ⟨f1, v1⟩ := hE _ _ _ _ h1
    obtain ⟨f2, v2⟩ := hC _ _ _ h3
    obtain ⟨f3, v3⟩ := hC _ _ _ h5
    have n1 := f1.1
    have n2 := f2.1
    have f := (f1.trans f2).trans f3
    have erow : va_up σ3.tb m (3, 0, 0, 0, 0, σ.n, σ1.n, σ2.n, 0, 0) m = (3, 0, 0, 0, 0, σ.n, σ1.n, σ2.n, 0, 0) := va_eq
    refine ⟨f.1, (sFr_set f (by omega)).2, Or.inr (Or.inr (Or.inl ⟨?_, ?_, ?_, ?_, ?_⟩))⟩
    · show (va_up σ3.tb m (3, 0, 0, 0, 0, σ.n, σ1.n, σ2.n, 0, 0) m).1 = 3
      rw [erow]
    · show (va_up σ3.tb m (3, 0, 0, 0, 0, σ.n, σ1.n, σ2.n, 0, 0) m).2.2.2.2.2.1 = m + 1
      rw [erow]
      exact hm
    · show mo_v (va_up σ3.tb m (3, 0, 0, 0, 0, σ.n, σ1.n, σ2.n, 0, 0)) k (m + 1) (va_up σ3.tb m (3, 0, 0, 0, 0, σ.n, σ1.n, σ2.n, 0, 0) m).2.2.2.2.2.2.1
      rw [erow, ← hm]
      exact mo_v_set v1 (by omega) (fun i _ hi => (f2.trans f3).2 i hi)
    · show mo_c (va_up σ3.tb m (3, 0, 0, 0, 0, σ.n, σ1.n, σ2.n, 0, 0)) k (va_up σ3.tb m (3, 0, 0, 0, 0, σ.n, σ1.n, σ2.n, 0, 0) m).2.2.2.2.2.2.1 (va_up σ3.tb m (3, 0, 0, 0, 0, σ.n, σ1.n, σ2.n, 0, 0) m).2.2.2.2.2.2.2.1
      rw [erow]
      exact mo_c_set v2 (by show m < σ1.n; omega) (fun i _ hi => f3.2 i hi)
    · show mo_c (va_up σ3.tb m (3, 0, 0, 0, 0, σ.n, σ1.n, σ2.n, 0, 0)) k (va_up σ3.tb m (3, 0, 0, 0, 0, σ.n, σ1.n, σ2.n, 0, 0) m).2.2.2.2.2.2.2.1 σ3.n
      rw [erow]
      exact mo_c_set v3 (by show m < σ2.n; omega) (fun _ _ _ => rfl)
  · obtain ⟨x1, σ1, h1, h2⟩ := ms_ebi h
    obtain ⟨x2, σ2, h3, h4⟩ := ms_ebi h2
    obtain ⟨x3, σ3, h5, h6⟩ := ms_ebi h4
    obtain ⟨x4, σ4, h7, h8⟩ := ms_ebi h6
    have hσ : σ4.set m (4, 0, 0, 0, x3, x2, σ3.n, 0, 0, 0) = σ' := by
      injection h8 with h8
      injection h8
    have e1 := sEq_need h1
    have n1 : σ1.n = m + 1 := e1.1.trans hm
    obtain ⟨f2, a2⟩ := sA_as hE hC 8 σ1 x2 (by omega) h3
    have e3 : sEq σ2 σ3 := by
      have := sEq_num h5
      exact ⟨this.1, this.2⟩
    obtain ⟨f4, c4⟩ := hC _ _ _ h7
    have n2 := f2.1
    have n4 := f4.1
    have n3 : σ3.n = σ2.n := e3.1
    have f := (((sFr.of e1).trans f2).trans (sFr.of e3)).trans f4
    have erow : va_up σ4.tb m (4, 0, 0, 0, x3, x2, σ3.n, 0, 0, 0) m = (4, 0, 0, 0, x3, x2, σ3.n, 0, 0, 0) := va_eq
    rw [← hσ]
    refine ⟨f.1, (sFr_set f (by omega)).2, Or.inr (Or.inr (Or.inr ⟨?_, ?_, ?_⟩))⟩
    · show (va_up σ4.tb m (4, 0, 0, 0, x3, x2, σ3.n, 0, 0, 0) m).1 = 4
      rw [erow]
    · show mo_a (va_up σ4.tb m (4, 0, 0, 0, x3, x2, σ3.n, 0, 0, 0)) (mo_v (va_up σ4.tb m (4, 0, 0, 0, x3, x2, σ3.n, 0, 0, 0)) k) (mo_c (va_up σ4.tb m (4, 0, 0, 0, x3, x2, σ3.n, 0, 0, 0)) k) 8 (va_up σ4.tb m (4, 0, 0, 0, x3, x2, σ3.n, 0, 0, 0) m).2.2.2.2.2.1 (m + 1) (va_up σ4.tb m (4, 0, 0, 0, x3, x2, σ3.n, 0, 0, 0) m).2.2.2.2.2.2.1
      rw [erow, ← n1]
      show mo_a _ _ _ 8 x2 σ1.n σ3.n
      rw [n3]
      have f24 : ∀ i, i < σ2.n → σ4.tb i = σ2.tb i := fun i hi => (f4.2 i (by omega)).trans (by rw [e3.2])
      exact mo_a_to (lo := 0) (mo_v_lt k) (mo_c_lt k) _ _ _ _ (fun i h1 h2 => (va_ne (by omega)).trans (f24 i h2)) (fun m' e' g1 g2 gg => mo_v_to _ _ _ (fun i h1 h2 => (va_ne (by omega)).trans (f24 i (by omega))) gg) (fun m' e' g1 g2 gg => mo_c_to _ _ _ (fun i h1 h2 => (va_ne (by omega)).trans (f24 i (by omega))) gg) a2
    · show mo_c (va_up σ4.tb m (4, 0, 0, 0, x3, x2, σ3.n, 0, 0, 0)) k (va_up σ4.tb m (4, 0, 0, 0, x3, x2, σ3.n, 0, 0, 0) m).2.2.2.2.2.2.1 σ4.n
      rw [erow]
      exact mo_c_set c4 (by show m < σ3.n; omega) (fun _ _ _ => rfl)
  · obtain ⟨x1, σ1, h1, h2⟩ := ms_ebi h
    obtain ⟨x2, σ2, h3, h4⟩ := ms_ebi h2
    obtain ⟨x3, σ3, h5, h6⟩ := ms_ebi h4
    cases h6
    exact vc (by decide) (sEq_va h1) h3 h5
  · obtain ⟨x1, σ1, h1, h2⟩ := ms_ebi h
    obtain ⟨x2, σ2, h3, h4⟩ := ms_ebi h2
    cases h4
    exact vc (by decide) ⟨rfl, rfl⟩ h1 h3
theorem ms_oc_r {q : Nat} (h : ms_oc q = some op) : op = 0 ∨ op = 1 ∨ op = 3 ∨ op = 4 ∨ op = 5 ∨ op = 6 := by
  unfold ms_oc at h
  repeat' split at h
  all_goals first | (cases h; omega) | cases h
theorem sC_C : ∀ k, sCq (ms_C g L k) k := by
  intro k
  induction k with
  | zero =>
    intro σ u σ' h
    cases h
  | succ k ih =>
    intro σ u σ' h
    unfold ms_C at h
    split at h
    · obtain ⟨x1, σ1, h1, h2⟩ := ms_ebi h
      obtain ⟨f1, v1⟩ := ih _ _ _ h1
      have e2 := sEq_need h2
      have f1n : σ.n ≤ σ1.n := f1.1
      refine ⟨⟨by rw [e2.1]; exact f1n, fun i hi => by rw [e2.2]; exact f1.2 i hi⟩, ?_⟩
      rw [e2.1, e2.2]
      exact mo_c_mono _ _ _ v1
    · cases ho : ms_oc σ.t.k with
      | none =>
        rw [ho] at h
        cases h
      | some op =>
        rw [ho] at h
        dsimp only at h
        split at h
        · cases h
        · obtain ⟨a1, a2, a3⟩ := sP_pt (σ := σ.add.nx g L) (sV_E k) ih (ms_oc_r ho) rfl h
          have a1' : σ.n + 1 ≤ σ'.n := a1
          exact ⟨⟨by omega, fun i hi => a2 i hi⟩, a3⟩
theorem ms_read_c (h : ms_read g L = .ok ((), σ)) : mo_c σ.tb 100 0 σ.n := by
  unfold ms_read at h
  obtain ⟨x1, σ1, h1, h2⟩ := ms_ebi h
  split at h2
  · cases h2
    exact (sC_C 100 _ _ _ h1).2
  · cases h2
end
