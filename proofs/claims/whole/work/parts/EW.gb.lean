/-! what a text gives: every node's parts are one stretch -/
/-- what reading leaves of the rows below, and where it ends -/
def sFr (σ σ' : ms_S) : Prop := σ.n ≤ σ'.n ∧ ∀ i, i < σ.n → σ'.tb i = σ.tb i
section
variable {g : Nat → Int32} {L k m op : Nat} {σ σ' σ1 σ2 : ms_S} {α β : Type}
theorem ms_ebi {r : ms_R α} {h : α → ms_S → ms_R β} {y : β} (e : ms_eb r h = .ok (y, σ')) : ∃ x σ1, r = .ok (x, σ1) ∧ h x σ1 = .ok (y, σ') := by
  match r, e with
  | .ok (x, σ1), e => exact ⟨x, σ1, rfl, e⟩
theorem sFr.re : sFr σ σ := ⟨Nat.le_refl _, fun _ _ => rfl⟩
theorem sFr.trans (h : sFr σ σ1) (h' : sFr σ1 σ2) : sFr σ σ2 := ⟨Nat.le_trans h.1 h'.1, fun i hi => (h'.2 i (by have := h.1; omega)).trans (h.2 i hi)⟩
/-- neither rows nor their number change -/
def sEq (σ σ' : ms_S) : Prop := σ'.n = σ.n ∧ σ'.tb = σ.tb
theorem sEq.trans (h : sEq σ σ1) (h' : sEq σ1 σ2) : sEq σ σ2 := ⟨h'.1.trans h.1, h'.2.trans h.2⟩
theorem sEq_need {u : Unit} (h : ms_need g L k σ = .ok (u, σ')) : sEq σ σ' := by
  unfold ms_need at h
  split at h
  · cases h
    exact ⟨rfl, rfl⟩
  · cases h
theorem sEq_pa {x : Nat} (h : ms_pa g L σ = .ok (x, σ')) : sEq σ σ' := by
  unfold ms_pa at h
  split at h
  · split at h
    · cases h
    · cases h
      exact ⟨rfl, rfl⟩
  · cases h
theorem sEq_to {x : Nat} (h : ms_to g L σ = .ok (x, σ')) : sEq σ σ' := by
  unfold ms_to at h
  split at h
  · split at h
    · cases h
    · cases h
      exact ⟨rfl, rfl⟩
  · cases h
theorem sEq_va {x : Nat} (h : ms_va g L σ = .ok (x, σ')) : sEq σ σ' := by
  unfold ms_va at h
  split at h
  · split at h
    · cases h
    · cases h
      exact ⟨rfl, rfl⟩
  · cases h
theorem sEq_hc {x : Nat} (h : ms_hc g L σ = .ok (x, σ')) : sEq σ σ' := by
  unfold ms_hc at h
  split at h
  · split at h
    · split at h
      · cases h
      · obtain ⟨y, σ1, h1, h2⟩ := ms_ebi h
        cases h2
        have := sEq_pa h1
        exact ⟨this.1, this.2⟩
    · cases h
  · cases h
theorem sEq_num {v : Int64} (h : ms_num g L σ = .ok (v, σ')) : sEq σ σ' := by
  unfold ms_num at h
  split at h
  · cases h
    exact ⟨rfl, rfl⟩
  · cases h
theorem sEq_ti {x : Nat} (h : ms_ti g L σ = .ok (x, σ')) : sEq σ σ' ∧ (x = 1 ∨ x = 2) := by
  unfold ms_ti at h
  split at h
  · cases h
    exact ⟨⟨rfl, rfl⟩, Or.inl rfl⟩
  · split at h
    · cases h
      exact ⟨⟨rfl, rfl⟩, Or.inr rfl⟩
    · cases h
theorem ms_bdn {X : ms_S} {v w : Int64} : (X.bnd v w).n = X.n := rfl
theorem ms_bdt {X : ms_S} {v w : Int64} : (X.bnd v w).tb = X.tb := rfl
theorem sEq_nx {X : ms_S} (h : sEq σ X) : sEq σ (X.nx g L) := ⟨by rw [ms_nxn]; exact h.1, by rw [ms_nxtb]; exact h.2⟩
theorem sEq_bs : ∀ (f : Nat) (σ : ms_S) {u : Unit}, ms_bs g L f σ = .ok (u, σ') → sEq σ σ' := by
  intro f
  induction f with
  | zero =>
    intro σ u h
    rw [ms_bs_z] at h
    cases h
  | succ f ih =>
    intro σ u h
    have e1 : sEq σ (((σ.nx g L).bnd σ.t.v (σ.nx g L).t.v).nx g L) := ⟨by rw [ms_nxn, ms_bdn, ms_nxn], by rw [ms_nxtb, ms_bdt, ms_nxtb]⟩
    by_cases c1 : σ.t.k = 37
    · by_cases c2 : (σ.nx g L).t.k = 37 ∧ ¬ (σ.nx g L).t.v < σ.t.v
      · by_cases c3 : (((σ.nx g L).bnd σ.t.v (σ.nx g L).t.v).nx g L).t.k = ms_kc 52
        · rw [ms_bs_3 c1 c2 c3] at h
          revert h e1
          generalize ((σ.nx g L).bnd σ.t.v (σ.nx g L).t.v).nx g L = σ2
          intro h e1
          have h : (Except.ok ((), σ2.nx g L) : ms_R Unit) = .ok (u, σ') := h
          injection h with h
          injection h with _ h
          rw [← h]
          exact sEq_nx e1
        · rw [ms_bs_4 c1 c2 c3] at h
          exact e1.trans (ih _ h)
      · rw [ms_bs_2 c1 c2] at h
        cases h
    · rw [ms_bs_1 c1] at h
      cases h
theorem mo_sh_2 : ∀ o : Fin 33, 10 ≤ o.1 → (ms_sh o.1 = 2 ∨ ms_sh o.1 = 8) → mo_sh o.1 = 1 := by decide +kernel
theorem mo_sh_3 : ∀ o : Fin 33, 10 ≤ o.1 → (ms_sh o.1 = 3 ∨ ms_sh o.1 = 7) → mo_sh o.1 = 2 := by decide +kernel
theorem mo_sh_6 : ∀ o : Fin 33, 10 ≤ o.1 → ms_sh o.1 = 6 → mo_sh o.1 = 3 := by decide +kernel
theorem mo_sh_0 : ∀ o : Fin 33, 10 ≤ o.1 → ¬ (ms_sh o.1 = 2 ∨ ms_sh o.1 = 8) → ¬ (ms_sh o.1 = 3 ∨ ms_sh o.1 = 7) → ¬ ms_sh o.1 = 6 → mo_sh o.1 = 0 := by decide +kernel
theorem ms_op_r : ∀ (s : Bool) (k : Nat), ms_op s k = some op → 10 ≤ op ∧ op < 33 := by
  intro s k h
  unfold ms_op at h
  cases s
  · dsimp only at h
    repeat' split at h
    all_goals first | (cases h; omega) | cases h
  · dsimp only at h
    repeat' split at h
    all_goals first | (cases h; omega) | cases h
/-- a row is set below what was read behind it -/
theorem mo_v_set {c : ms_N} {a b : Nat} (h : mo_v σ1.tb k a b) (hm : m < a) (hf : ∀ i, a ≤ i → i < b → σ2.tb i = σ1.tb i) : mo_v (va_up σ2.tb m c) k a b := mo_v_to _ _ _ (fun i h1 h2 => by rw [va_ne (by omega)]; exact hf i h1 h2) h
theorem mo_c_set {c : ms_N} {a b : Nat} (h : mo_c σ1.tb k a b) (hm : m < a) (hf : ∀ i, a ≤ i → i < b → σ2.tb i = σ1.tb i) : mo_c (va_up σ2.tb m c) k a b := mo_c_to _ _ _ (fun i h1 h2 => by rw [va_ne (by omega)]; exact hf i h1 h2) h
def sVp (E : Bool → ms_S → ms_R Unit) (k : Nat) : Prop := ∀ s σ u σ', E s σ = .ok (u, σ') → sFr σ σ' ∧ mo_v σ'.tb k σ.n σ'.n
def sCp (C : ms_S → ms_R Unit) (k : Nat) : Prop := ∀ σ u σ', 0 < σ.n → C σ = .ok (u, σ') → sFr σ σ' ∧ mo_c σ'.tb k σ.n σ'.n
theorem sFr_set {c : ms_N} (h : sFr σ σ1) (hm : m < σ.n) : σ.n ≤ (σ1.set m c).n ∧ ∀ i, i < m → (σ1.set m c).tb i = σ.tb i := ⟨h.1, fun i hi => (va_ne (by omega)).trans (h.2 i (by omega))⟩
theorem sB_bd {E : Bool → ms_S → ms_R Unit} {v : Int64} {u : Unit} (hE : sVp E k) (ho : 10 ≤ op ∧ op < 33) (hm : σ.n = m + 1) (h : ms_bd g L E op m v σ = .ok (u, σ')) : σ.n ≤ σ'.n ∧ (∀ i, i < m → σ'.tb i = σ.tb i) ∧ mo_v σ'.tb (k + 1) m σ'.n := by
  have s1 : ms_sh op = 2 → mo_sh op = 1 := fun h => mo_sh_2 ⟨op, ho.2⟩ ho.1 (Or.inl h)
  have s2 : ms_sh op = 8 → mo_sh op = 1 := fun h => mo_sh_2 ⟨op, ho.2⟩ ho.1 (Or.inr h)
  have s3 : ms_sh op = 3 → mo_sh op = 2 := fun h => mo_sh_3 ⟨op, ho.2⟩ ho.1 (Or.inl h)
  have s4 : ms_sh op = 7 → mo_sh op = 2 := fun h => mo_sh_3 ⟨op, ho.2⟩ ho.1 (Or.inr h)
  have s5 : ms_sh op = 6 → mo_sh op = 3 := fun h => mo_sh_6 ⟨op, ho.2⟩ ho.1 h
  have s6 : ¬ ms_sh op = 2 → ¬ ms_sh op = 8 → ¬ ms_sh op = 3 → ¬ ms_sh op = 7 → ¬ ms_sh op = 6 → mo_sh op = 0 := fun h1 h2 h3 h4 h5 => mo_sh_0 ⟨op, ho.2⟩ ho.1 (fun h => h.elim h1 h2) (fun h => h.elim h3 h4) h5
  have leaf : ∀ {σ1 : ms_S} {c : ms_N}, c.1 = op → mo_sh op = 0 → sEq σ σ1 → σ.n ≤ (σ1.set m c).n ∧ (∀ i, i < m → (σ1.set m c).tb i = σ.tb i) ∧ mo_v (σ1.set m c).tb (k + 1) m (σ1.set m c).n := by
    intro σ1 c hc h0 he
    refine ⟨by show σ.n ≤ σ1.n; rw [he.1]; exact Nat.le_refl _, fun i hi => (va_ne (by omega)).trans (by rw [he.2]), Or.inl ⟨?_, ?_⟩⟩
    · show mo_sh (va_up σ1.tb m c m).1 = 0
      rw [va_eq, hc]
      exact h0
    · show σ1.n = m + 1
      rw [he.1]
      exact hm
  have one : ∀ {s : Bool} {u : Unit} {σ1 : ms_S}, mo_sh op = 1 → E s σ = .ok (u, σ1) → σ.n ≤ (σ1.set m (op, 0, 0, 0, 0, σ.n, 0, 0, 0, 0)).n ∧ (∀ i, i < m → (σ1.set m (op, 0, 0, 0, 0, σ.n, 0, 0, 0, 0)).tb i = σ.tb i) ∧ mo_v (σ1.set m (op, 0, 0, 0, 0, σ.n, 0, 0, 0, 0)).tb (k + 1) m (σ1.set m (op, 0, 0, 0, 0, σ.n, 0, 0, 0, 0)).n := by
    intro s u σ1 h0 h1
    obtain ⟨f1, v1⟩ := hE _ _ _ _ h1
    refine ⟨f1.1, (sFr_set f1 (by omega)).2, Or.inr (Or.inl ⟨?_, ?_, ?_⟩)⟩
    · show mo_sh (va_up σ1.tb m _ m).1 = 1
      rw [va_eq]
      exact h0
    · show (va_up σ1.tb m (op, 0, 0, 0, 0, σ.n, 0, 0, 0, 0) m).2.2.2.2.2.1 = m + 1
      rw [va_eq]
      exact hm
    · rw [← hm]
      exact mo_v_set v1 (by omega) (fun _ _ _ => rfl)
  have two : ∀ {s1 s2 : Bool} {u1 u2 : Unit} {σ1 σ2 : ms_S}, mo_sh op = 2 → E s1 σ = .ok (u1, σ1) → E s2 σ1 = .ok (u2, σ2) → σ.n ≤ (σ2.set m (op, 0, 0, 0, 0, σ.n, σ1.n, 0, 0, 0)).n ∧ (∀ i, i < m → (σ2.set m (op, 0, 0, 0, 0, σ.n, σ1.n, 0, 0, 0)).tb i = σ.tb i) ∧ mo_v (σ2.set m (op, 0, 0, 0, 0, σ.n, σ1.n, 0, 0, 0)).tb (k + 1) m (σ2.set m (op, 0, 0, 0, 0, σ.n, σ1.n, 0, 0, 0)).n := by
    intro s1 s2 u1 u2 σ1 σ2 h0 h1 h2
    obtain ⟨f1, v1⟩ := hE _ _ _ _ h1
    obtain ⟨f2, v2⟩ := hE _ _ _ _ h2
    have g1 := f1.1
    refine ⟨(f1.trans f2).1, (sFr_set (f1.trans f2) (by omega)).2, Or.inr (Or.inr (Or.inl ⟨?_, ?_, ?_, ?_⟩))⟩
    · show mo_sh (va_up σ2.tb m _ m).1 = 2
      rw [va_eq]
      exact h0
    · show (va_up σ2.tb m (op, 0, 0, 0, 0, σ.n, σ1.n, 0, 0, 0) m).2.2.2.2.2.1 = m + 1
      rw [va_eq]
      exact hm
    · show mo_v (va_up σ2.tb m (op, 0, 0, 0, 0, σ.n, σ1.n, 0, 0, 0)) k (m + 1) (va_up σ2.tb m (op, 0, 0, 0, 0, σ.n, σ1.n, 0, 0, 0) m).2.2.2.2.2.2.1
      rw [va_eq, ← hm]
      exact mo_v_set v1 (by omega) (fun i _ hi => f2.2 i hi)
    · show mo_v (va_up σ2.tb m (op, 0, 0, 0, 0, σ.n, σ1.n, 0, 0, 0)) k (va_up σ2.tb m (op, 0, 0, 0, 0, σ.n, σ1.n, 0, 0, 0) m).2.2.2.2.2.2.1 σ2.n
      rw [va_eq]
      exact mo_v_set v2 (by show m < σ1.n; omega) (fun _ _ _ => rfl)
  unfold ms_bd at h
  split at h
  · rename_i hs
    obtain ⟨x1, σ1, h1, h2⟩ := ms_ebi h
    obtain ⟨x2, σ2, h3, h4⟩ := ms_ebi h2
    cases h4
    exact leaf rfl (s6 (by omega) (by omega) (by omega) (by omega) (by omega)) ((sEq_pa h1).trans (sEq_to h3))
  · rename_i hs
    obtain ⟨x1, σ1, h1, h2⟩ := ms_ebi h
    cases h2
    exact one (s1 hs) h1
  · rename_i hs
    obtain ⟨x1, σ1, h1, h2⟩ := ms_ebi h
    obtain ⟨x2, σ2, h3, h4⟩ := ms_ebi h2
    cases h4
    exact two (s3 hs) h1 h3
  · rename_i hs
    obtain ⟨x1, σ1, h1, h2⟩ := ms_ebi h
    cases h2
    exact leaf rfl (s6 (by omega) (by omega) (by omega) (by omega) (by omega)) (sEq_hc h1)
  · rename_i hs
    obtain ⟨x1, σ1, h1, h2⟩ := ms_ebi h
    cases h2
    exact leaf rfl (s6 (by omega) (by omega) (by omega) (by omega) (by omega)) (sEq_va h1)
  · rename_i hs
    obtain ⟨x1, σ1, h1, h2⟩ := ms_ebi h
    obtain ⟨x2, σ2, h3, h4⟩ := ms_ebi h2
    obtain ⟨x3, σ3, h5, h6⟩ := ms_ebi h4
    cases h6
    obtain ⟨f1, v1⟩ := hE _ _ _ _ h1
    obtain ⟨f2, v2⟩ := hE _ _ _ _ h3
    obtain ⟨f3, v3⟩ := hE _ _ _ _ h5
    have g1 := f1.1
    have g2 := f2.1
    refine ⟨((f1.trans f2).trans f3).1, (sFr_set ((f1.trans f2).trans f3) (by omega)).2, Or.inr (Or.inr (Or.inr ⟨?_, ?_, ?_, ?_, ?_⟩))⟩
    · show mo_sh (va_up σ3.tb m _ m).1 = 3
      rw [va_eq]
      exact s5 hs
    · show (va_up σ3.tb m (op, 0, 0, 0, 0, σ.n, σ1.n, σ2.n, 0, 0) m).2.2.2.2.2.1 = m + 1
      rw [va_eq]
      exact hm
    · show mo_v (va_up σ3.tb m (op, 0, 0, 0, 0, σ.n, σ1.n, σ2.n, 0, 0)) k (m + 1) (va_up σ3.tb m (op, 0, 0, 0, 0, σ.n, σ1.n, σ2.n, 0, 0) m).2.2.2.2.2.2.1
      rw [va_eq, ← hm]
      exact mo_v_set v1 (by omega) (fun i _ hi => (f2.trans f3).2 i hi)
    · show mo_v (va_up σ3.tb m (op, 0, 0, 0, 0, σ.n, σ1.n, σ2.n, 0, 0)) k (va_up σ3.tb m (op, 0, 0, 0, 0, σ.n, σ1.n, σ2.n, 0, 0) m).2.2.2.2.2.2.1 (va_up σ3.tb m (op, 0, 0, 0, 0, σ.n, σ1.n, σ2.n, 0, 0) m).2.2.2.2.2.2.2.1
      rw [va_eq]
      exact mo_v_set v2 (by show m < σ1.n; omega) (fun i _ hi => f3.2 i hi)
    · show mo_v (va_up σ3.tb m (op, 0, 0, 0, 0, σ.n, σ1.n, σ2.n, 0, 0)) k (va_up σ3.tb m (op, 0, 0, 0, 0, σ.n, σ1.n, σ2.n, 0, 0) m).2.2.2.2.2.2.2.1 σ3.n
      rw [va_eq]
      exact mo_v_set v3 (by show m < σ2.n; omega) (fun _ _ _ => rfl)
  · rename_i hs
    obtain ⟨x1, σ1, h1, h2⟩ := ms_ebi h
    obtain ⟨x2, σ2, h3, h4⟩ := ms_ebi h2
    cases h4
    exact two (s4 hs) h1 h3
  · rename_i hs
    obtain ⟨x1, σ1, h1, h2⟩ := ms_ebi h
    cases h2
    exact one (s2 hs) h1
  · rename_i n1 n2 n3 n4 n5 n6 n7 n8
    cases h
    exact leaf rfl (s6 n2 n8 n3 n7 n6) ⟨rfl, rfl⟩
theorem sV_E : ∀ k, sVp (ms_E g L k) k := by
  intro k
  induction k with
  | zero =>
    intro s σ u σ' h
    cases h
  | succ k ih =>
    intro s σ u σ' h
    unfold ms_E at h
    split at h
    · obtain ⟨x1, σ1, h1, h2⟩ := ms_ebi h
      obtain ⟨f1, v1⟩ := ih _ _ _ _ h1
      have e2 := sEq_need h2
      have f1n : σ.n ≤ σ1.n := f1.1
      refine ⟨⟨by rw [e2.1]; exact f1n, fun i hi => by rw [e2.2]; exact f1.2 i hi⟩, ?_⟩
      rw [e2.1, e2.2]
      exact mo_v_mono _ _ _ v1
    · cases ho : ms_op s σ.t.k with
      | none =>
        rw [ho] at h
        cases h
      | some op =>
        rw [ho] at h
        dsimp only at h
        split at h
        · cases h
        · obtain ⟨a1, a2, a3⟩ := sB_bd (σ := σ.add.nx g L) ih (ms_op_r s _ ho) rfl h
          have a1' : σ.n + 1 ≤ σ'.n := a1
          exact ⟨⟨by omega, fun i hi => a2 i hi⟩, a3⟩
end
