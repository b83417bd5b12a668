/-! what a text gives is within bounds -/
def ms_sm (v : Int64) : Prop := -100000000000000000 ≤ v.toInt ∧ v.toInt ≤ 100000000000000000
/-- bounds of a choice: the lower one first, and none of them far out -/
def ms_bo (p : Int64 × Int64) : Prop := -100000000000000000 ≤ p.1.toInt ∧ p.1.toInt ≤ p.2.toInt ∧ p.2.toInt ≤ 100000000000000000
def sOK (σ : ms_S) : Prop := ms_sm σ.t.v ∧ (∀ m, ms_sm (σ.tb m).2.2.2.2.1) ∧ (∀ j, ms_bo (σ.bd j)) ∧ ∀ m, (σ.tb m).1 = 8 → (σ.tb m).2.2.2.2.2.2.2.2.2 + (σ.tb m).2.2.2.2.2.2.2.2.1 ≤ σ.q
def sT {α : Type} (σ : ms_S) (r : ms_R α) (P : α → ms_S → Prop) : Prop := ∀ x σ', r = .ok (x, σ') → sOK σ' ∧ σ.q ≤ σ'.q ∧ P x σ'
section
variable {g : Nat → Int32} {L k m op : Nat} {σ σ1 : ms_S} {α β : Type}
theorem in0 : ms_sm 0 := ⟨by decide, by decide⟩
theorem bo0 : ms_bo (0, 0) := ⟨by decide, by decide, by decide⟩
theorem ms_sm_in {v : Int64} (h : ms_sm v) : mv_in v := ⟨by have := h.1; omega, by have := h.2; omega⟩
theorem ms_bo_in {p : Int64 × Int64} (h : ms_bo p) : mv_in p.1 ∧ mv_in p.2 := ⟨⟨by have := h.1; omega, by have := h.2; omega⟩, ⟨by have := h.1; have := h.2; omega, by have := h.2.2; omega⟩⟩
theorem ms_nm_in : ∀ (t k : Nat) (v : Int64) (B : Int), 0 ≤ v.toInt → v.toInt < B → B * 10 ^ t ≤ 10 ^ 17 → 0 ≤ (ms_nm g L t k v).2.toInt ∧ (ms_nm g L t k v).2.toInt < 10 ^ 17 := by
  intro t
  induction t with
  | zero =>
    intro k v B h0 h1 h2
    rw [Int.pow_zero, Int.mul_one] at h2
    exact ⟨h0, Int.lt_of_lt_of_le h1 h2⟩
  | succ t ih =>
    intro k v B h0 h1 h2
    unfold ms_nm
    by_cases hd : mr_dg (ms_c g L k)
    · rw [if_pos hd]
      have hp : (1 : Int) ≤ 10 ^ t := by
        have : (0 : Int) < 10 ^ t := Int.pow_pos (by decide)
        omega
      have hB : B * 10 * 10 ^ t ≤ 10 ^ 17 := by
        rw [Int.mul_assoc, Int.mul_comm 10, ← Int.pow_succ]
        exact h2
      have hB2 : B * 10 ≤ 10 ^ 17 := by
        have := Int.mul_le_mul_of_nonneg_left hp (show (0 : Int) ≤ B * 10 by omega)
        rw [Int.mul_one] at this
        exact Int.le_trans this hB
      have e17 : (10 : Int) ^ 17 = 100000000000000000 := by decide
      rw [e17] at hB2
      have hd1 := Int64.le_iff_toInt_le.mp hd.1
      have hd2 := Int64.le_iff_toInt_le.mp hd.2
      have d48 : (48 : Int64).toInt = 48 := rfl
      have d57 : (57 : Int64).toInt = 57 := rfl
      have d10 : (10 : Int64).toInt = 10 := rfl
      rw [d48] at hd1
      rw [d57] at hd2
      have e1 : (10 * v : Int64).toInt = 10 * v.toInt := by
        rw [Int64.toInt_mul, d10]
        exact bm64 (by omega) (by omega)
      have e2 : (10 * v + (ms_c g L k).toInt64 : Int64).toInt = 10 * v.toInt + (ms_c g L k).toInt64.toInt := by
        rw [Int64.toInt_add, e1]
        exact bm64 (by omega) (by omega)
      have e3 : (10 * v + (ms_c g L k).toInt64 - 48 : Int64).toInt = 10 * v.toInt + (ms_c g L k).toInt64.toInt - 48 := by
        rw [Int64.toInt_sub, e2, d48]
        exact bm64 (by omega) (by omega)
      exact ih (k + 1) _ (B * 10) (by rw [e3]; omega) (by rw [e3]; omega) hB
    · rw [if_neg hd]
      have hp : (1 : Int) ≤ 10 ^ (t + 1) := by
        have : (0 : Int) < 10 ^ (t + 1) := Int.pow_pos (by decide)
        omega
      have := Int.mul_le_mul_of_nonneg_left hp (show (0 : Int) ≤ B by omega)
      rw [Int.mul_one] at this
      exact ⟨h0, Int.lt_of_lt_of_le h1 (Int.le_trans this h2)⟩
theorem ms_nm_i : ms_sm (ms_nm g L 17 k 0).2 := by
  have h := ms_nm_in (g := g) (L := L) 17 k 0 1 (by decide) (by decide) (by decide)
  have e17 : (10 : Int) ^ 17 = 100000000000000000 := by decide
  rw [e17] at h
  unfold ms_sm
  omega
theorem ms_nx_in {p : Nat} : ms_sm (ms_nx g L p).v := by
  unfold ms_nx ms_tk
  split
  · exact in0
  split
  · exact in0
  split
  · exact ms_nm_i
  split
  · have h := ms_nm_i (g := g) (L := L) (k := ms_sk g (L - p) p + 1)
    have hn := mv_neg (ms_sm_in h)
    unfold ms_sm at *
    show -100000000000000000 ≤ (-(ms_nm g L 17 (ms_sk g (L - p) p + 1) 0).2).toInt ∧ (-(ms_nm g L 17 (ms_sk g (L - p) p + 1) 0).2).toInt ≤ 100000000000000000
    rw [hn]
    omega
  · exact in0
theorem sOK.nx (h : sOK σ) : sOK (σ.nx g L) := ⟨ms_nx_in, h.2⟩
theorem sOK.add (h : sOK σ) : sOK σ.add := h
theorem sOK.bnd {v w : Int64} (h : sOK σ) (hv : ms_bo (v, w)) : sOK (σ.bnd v w) := by
  refine ⟨h.1, h.2.1, fun j => ?_, fun m hm => Nat.le_succ_of_le (h.2.2.2 m hm)⟩
  show ms_bo (va_up σ.bd σ.q (v, w) j)
  by_cases e : j = σ.q
  · rw [e, va_eq]
    exact hv
  · rw [va_ne e]
    exact h.2.2.1 j
theorem sOK.set {c : ms_N} (h : sOK σ) (hv : ms_sm c.2.2.2.2.1) (h8 : c.1 = 8 → c.2.2.2.2.2.2.2.2.2 + c.2.2.2.2.2.2.2.2.1 ≤ σ.q) : sOK (σ.set m c) := by
  refine ⟨h.1, fun j => ?_, h.2.2.1, fun j => ?_⟩
  · show ms_sm (va_up σ.tb m c j).2.2.2.2.1
    by_cases e : j = m
    · rw [e, va_eq]
      exact hv
    · rw [va_ne e]
      exact h.2.1 j
  · show (va_up σ.tb m c j).1 = 8 → (va_up σ.tb m c j).2.2.2.2.2.2.2.2.2 + (va_up σ.tb m c j).2.2.2.2.2.2.2.2.1 ≤ σ.q
    by_cases e : j = m
    · rw [e, va_eq]
      exact h8
    · rw [va_ne e]
      exact h.2.2.2 j
theorem sT.er {P : α → ms_S → Prop} {w : Nat} : sT σ (.error w) P := fun x σ' h => (by cases h)
theorem sT.ok {P : α → ms_S → Prop} {x : α} (h : sOK σ1) (hq : σ.q ≤ σ1.q) (hP : P x σ1) : sT σ (.ok (x, σ1)) P := fun y σ' e => by
  cases e
  exact ⟨h, hq, hP⟩
theorem sT.bind {r : ms_R α} {h : α → ms_S → ms_R β} {P : α → ms_S → Prop} {R : β → ms_S → Prop} (h1 : sT σ r P) (h2 : ∀ x σ1, sOK σ1 → σ.q ≤ σ1.q → P x σ1 → sT σ1 (h x σ1) R) : sT σ (ms_eb r h) R := by
  intro y σ' e
  match r, h1, e with
  | .ok (x, σ1), h1, e =>
    obtain ⟨a1, a2, a3⟩ := h1 x σ1 rfl
    obtain ⟨b1, b2, b3⟩ := h2 x σ1 a1 a2 a3 y σ' e
    exact ⟨b1, Nat.le_trans a2 b2, b3⟩
theorem sT.to {r : ms_R α} {P : α → ms_S → Prop} {σ2 : ms_S} (h : sT σ r P) (hq : σ2.q ≤ σ.q) : sT σ2 r P := fun x σ' e => ⟨(h x σ' e).1, Nat.le_trans hq (h x σ' e).2.1, (h x σ' e).2.2⟩
abbrev sTr {α : Type} : α → ms_S → Prop := fun _ _ => True
theorem sT_need (h : sOK σ) : sT σ (ms_need g L k σ) sTr := by
  unfold ms_need
  split
  · exact sT.ok h.nx (Nat.le_refl _) trivial
  · exact sT.er
theorem sT_pa (h : sOK σ) : sT σ (ms_pa g L σ) sTr := by
  unfold ms_pa
  split
  · split
    · exact sT.er
    · exact sT.ok (sOK.nx (σ := σ.sP (ms_nn g σ σ.P)) h) (Nat.le_refl _) trivial
  · exact sT.er
theorem sT_to (h : sOK σ) : sT σ (ms_to g L σ) sTr := by
  unfold ms_to
  split
  · split
    · exact sT.er
    · exact sT.ok (sOK.nx (σ := σ.sT (ms_nn g σ σ.T)) h) (Nat.le_refl _) trivial
  · exact sT.er
theorem sT_va (h : sOK σ) : sT σ (ms_va g L σ) sTr := by
  unfold ms_va
  split
  · split
    · exact sT.er
    · exact sT.ok (sOK.nx (σ := σ.sN (ms_nn g σ σ.N)) h) (Nat.le_refl _) trivial
  · exact sT.er
theorem sT_hc (h : sOK σ) : sT σ (ms_hc g L σ) sTr := by
  unfold ms_hc
  split
  · split
    · split
      · exact sT.er
      · exact sT.bind ((sT_pa h.nx).to (Nat.le_refl _)) (fun _ σ2 h2 _ _ => sT.ok (σ1 := σ2.sH (ms_hh g L σ)) h2 (Nat.le_refl _) trivial)
    · exact sT.er
  · exact sT.er
theorem sT_num (h : sOK σ) : sT σ (ms_num g L σ) (fun v _ => ms_sm v) := by
  unfold ms_num
  split
  · exact sT.ok h.nx (Nat.le_refl _) h.1
  · exact sT.er
theorem sT_ti (h : sOK σ) : sT σ (ms_ti g L σ) (fun o _ => o = 1 ∨ o = 2) := by
  unfold ms_ti
  split
  · exact sT.ok h.nx (Nat.le_refl _) (Or.inl rfl)
  · split
    · exact sT.ok h.nx (Nat.le_refl _) (Or.inr rfl)
    · exact sT.er
theorem ms_op8 : ∀ (s : Bool) (k : Nat), ms_op s k = some op → ¬ op = 8 := by
  intro s k h e
  subst e
  unfold ms_op at h
  cases s
  · dsimp only at h
    repeat' split at h
    all_goals cases h
  · dsimp only at h
    repeat' split at h
    all_goals cases h
theorem sT_bd {E : Bool → ms_S → ms_R Unit} {v : Int64} (hE : ∀ s σ, sOK σ → sT σ (E s σ) sTr) (ho : ¬ op = 8) (hv : ms_sm v) (h : sOK σ) : sT σ (ms_bd g L E op m v σ) sTr := by
  unfold ms_bd
  split
  · exact sT.bind (sT_pa h) (fun _ _ h _ _ => sT.bind (sT_to h) (fun _ _ h _ _ => sT.ok (h.set in0 (fun e => absurd e ho)) (Nat.le_refl _) trivial))
  · exact sT.bind (hE _ _ h) (fun _ _ h _ _ => sT.ok (h.set in0 (fun e => absurd e ho)) (Nat.le_refl _) trivial)
  · exact sT.bind (hE _ _ h) (fun _ _ h _ _ => sT.bind (hE _ _ h) (fun _ _ h _ _ => sT.ok (h.set in0 (fun e => absurd e ho)) (Nat.le_refl _) trivial))
  · exact sT.bind (sT_hc h) (fun _ _ h _ _ => sT.ok (h.set in0 (fun e => absurd e ho)) (Nat.le_refl _) trivial)
  · exact sT.bind (sT_va h) (fun _ _ h _ _ => sT.ok (h.set in0 (fun e => absurd e ho)) (Nat.le_refl _) trivial)
  · exact sT.bind (hE _ _ h) (fun _ _ h _ _ => sT.bind (hE _ _ h) (fun _ _ h _ _ => sT.bind (hE _ _ h) (fun _ _ h _ _ => sT.ok (h.set in0 (fun e => absurd e ho)) (Nat.le_refl _) trivial)))
  · exact sT.bind (hE _ _ h) (fun _ _ h _ _ => sT.bind (hE _ _ h) (fun _ _ h _ _ => sT.ok (h.set in0 (fun e => absurd e ho)) (Nat.le_refl _) trivial))
  · exact sT.bind (hE _ _ h) (fun _ _ h _ _ => sT.ok (h.set in0 (fun e => absurd e ho)) (Nat.le_refl _) trivial)
  · exact sT.ok (h.set (by dsimp only; split; exact hv; exact in0) (fun e => absurd e ho)) (Nat.le_refl _) trivial
theorem sT_E : ∀ (k : Nat) (s : Bool) (σ : ms_S), sOK σ → sT σ (ms_E g L k s σ) sTr := by
  intro k
  induction k with
  | zero =>
    intro s σ _
    exact sT.er
  | succ k ih =>
    intro s σ h
    unfold ms_E
    split
    · exact sT.bind ((ih s _ h.nx).to (Nat.le_refl _)) (fun _ _ h _ _ => sT_need h)
    · cases ho : ms_op s σ.t.k with
      | none => exact sT.er
      | some op =>
        dsimp only
        split
        · exact sT.er
        · exact (sT_bd ih (ms_op8 s _ ho) h.1 (sOK.nx (σ := σ.add) h)).to (Nat.le_refl _)
theorem sOK.b1 (h : sOK σ) (c2 : ¬ (σ.nx g L).t.v < σ.t.v) : sOK (((σ.nx g L).bnd σ.t.v (σ.nx g L).t.v).nx g L) := by
  have h1 : sOK (σ.nx g L) := h.nx
  have h2 : sOK ((σ.nx g L).bnd σ.t.v (σ.nx g L).t.v) := h1.bnd ⟨h.1.1, by rw [Int64.lt_iff_toInt_lt] at c2; exact Int.not_lt.mp c2, h1.1.2⟩
  exact h2.nx
theorem sq_b1 : σ.q ≤ (((σ.nx g L).bnd σ.t.v (σ.nx g L).t.v).nx g L).q := by
  show σ.q ≤ σ.q + 1
  omega
theorem ms_bs_z : ms_bs g L 0 σ = .error σ.t.a := by
  unfold ms_bs
  rfl
theorem ms_bs_1 {f : Nat} (c1 : ¬ σ.t.k = 37) : ms_bs g L (f + 1) σ = .error σ.t.a := by
  rw [ms_bs_s, if_neg c1]
theorem ms_bs_2 {f : Nat} (c1 : σ.t.k = 37) (c2 : ¬ ((σ.nx g L).t.k = 37 ∧ ¬ (σ.nx g L).t.v < σ.t.v)) : ms_bs g L (f + 1) σ = .error (σ.nx g L).t.a := by
  rw [ms_bs_s, if_pos c1, if_neg c2]
theorem ms_bs_3 {f : Nat} (c1 : σ.t.k = 37) (c2 : (σ.nx g L).t.k = 37 ∧ ¬ (σ.nx g L).t.v < σ.t.v) (c3 : (((σ.nx g L).bnd σ.t.v (σ.nx g L).t.v).nx g L).t.k = ms_kc 52) : ms_bs g L (f + 1) σ = .ok ((), (((σ.nx g L).bnd σ.t.v (σ.nx g L).t.v).nx g L).nx g L) := by
  rw [ms_bs_s, if_pos c1, if_pos c2, if_pos c3]
theorem ms_bs_4 {f : Nat} (c1 : σ.t.k = 37) (c2 : (σ.nx g L).t.k = 37 ∧ ¬ (σ.nx g L).t.v < σ.t.v) (c3 : ¬ (((σ.nx g L).bnd σ.t.v (σ.nx g L).t.v).nx g L).t.k = ms_kc 52) : ms_bs g L (f + 1) σ = ms_bs g L f (((σ.nx g L).bnd σ.t.v (σ.nx g L).t.v).nx g L) := by
  rw [ms_bs_s, if_pos c1, if_pos c2, if_neg c3]
theorem sT_bs : ∀ (f : Nat) (σ : ms_S), sOK σ → sT σ (ms_bs g L f σ) sTr := by
  intro f
  induction f with
  | zero =>
    intro σ _
    rw [ms_bs_z]
    exact sT.er
  | succ f ih =>
    intro σ h
    have hq := sq_b1 (g := g) (L := L) (σ := σ)
    by_cases c1 : σ.t.k = 37
    · by_cases c2 : (σ.nx g L).t.k = 37 ∧ ¬ (σ.nx g L).t.v < σ.t.v
      · have h2 := h.b1 (g := g) (L := L) c2.2
        by_cases c3 : (((σ.nx g L).bnd σ.t.v (σ.nx g L).t.v).nx g L).t.k = ms_kc 52
        · rw [ms_bs_3 c1 c2 c3]
          have h3 := h2.nx (g := g) (L := L)
          exact sT.ok h3 (by rw [ms_nxq]; exact hq) trivial
        · rw [ms_bs_4 c1 c2 c3]
          exact (ih _ h2).to hq
      · rw [ms_bs_2 c1 c2]
        exact sT.er
    · rw [ms_bs_1 c1]
      exact sT.er
theorem sT_ac {E : Bool → ms_S → ms_R Unit} (hE : ∀ s σ, sOK σ → sT σ (E s σ) sTr) (h : sOK σ) : sT σ (ms_ac g L E op σ) (fun c σ' => ms_sm c.2.2.2.2.1 ∧ (c.1 = 8 → c.2.2.2.2.2.2.2.2.2 + c.2.2.2.2.2.2.2.2.1 ≤ σ'.q)) := by
  unfold ms_ac
  split
  · exact sT.bind (sT_pa h) (fun _ _ h _ _ => sT.bind (sT_pa h) (fun _ _ h _ _ => sT.bind (sT_to h) (fun _ _ h _ _ => sT.bind (hE _ _ h) (fun _ _ h _ _ => sT.ok h (Nat.le_refl _) ⟨in0, fun e => absurd (show (7 : Nat) = 8 from e) (by decide)⟩))))
  · exact sT.bind (hE _ _ h) (fun _ _ h _ _ => sT.ok h (Nat.le_refl _) ⟨in0, fun e => absurd (show (9 : Nat) = 8 from e) (by decide)⟩)
  · refine sT.bind (sT_hc h) (fun _ σa h _ _ => sT.bind (sT_need h) (fun _ σb h _ _ => sT.bind (sT_bs L _ h) (fun _ σc h hq _ => sT.ok h (Nat.le_refl _) ⟨in0, fun _ => ?_⟩)))
    dsimp only
    omega
theorem sT_as {E : Bool → ms_S → ms_R Unit} {C : ms_S → ms_R Unit} (hE : ∀ s σ, sOK σ → sT σ (E s σ) sTr) (hC : ∀ σ, sOK σ → sT σ (C σ) sTr) : ∀ (c : Nat) (σ : ms_S), sOK σ → sT σ (ms_as g L E C c σ) sTr := by
  intro c
  induction c with
  | zero =>
    intro σ h
    unfold ms_as
    split
    · exact sT.ok h (Nat.le_refl _) trivial
    · exact sT.er
  | succ c ih =>
    intro σ h
    unfold ms_as
    split
    · exact sT.ok h (Nat.le_refl _) trivial
    · cases ms_oa σ.t.k with
      | none => exact sT.er
      | some op =>
        dsimp only
        split
        · exact sT.er
        · refine sT.bind ((sT_ac hE (sOK.nx (σ := σ.add) h)).to (Nat.le_refl _)) (fun x σ1 h1 _ hx => sT.bind (hC σ1 h1) (fun _ σ2 h2 q2 _ => sT.bind (ih σ2 h2) (fun z σ3 h3 q3 _ => sT.ok (h3.set hx.1 (fun e => ?_)) (Nat.le_refl _) trivial)))
          have := hx.2 e
          show x.2.2.2.2.2.2.2.2.2 + x.2.2.2.2.2.2.2.2.1 ≤ σ3.q
          omega
theorem sT_pt {E : Bool → ms_S → ms_R Unit} {C : ms_S → ms_R Unit} (hE : ∀ s σ, sOK σ → sT σ (E s σ) sTr) (hC : ∀ σ, sOK σ → sT σ (C σ) sTr) (h : sOK σ) : sT σ (ms_pt g L E C op m σ) sTr := by
  unfold ms_pt
  split
  · exact sT.ok (h.set in0 (fun e => absurd (show (0 : Nat) = 8 from e) (by decide))) (Nat.le_refl _) trivial
  · exact sT.bind (sT_pa h) (fun _ _ h _ _ => sT.bind (sT_ti h) (fun o _ h _ ho => sT.bind (sT_pa h) (fun _ _ h _ _ => sT.bind (sT_to h) (fun _ _ h _ _ => sT.bind (hE _ _ h) (fun _ _ h _ _ => sT.bind (hC _ h) (fun _ _ h _ _ => sT.ok (h.set in0 (fun e => by have e : o = 8 := e; omega)) (Nat.le_refl _) trivial))))))
  · exact sT.bind (hE _ _ h) (fun _ _ h _ _ => sT.bind (hC _ h) (fun _ _ h _ _ => sT.bind (hC _ h) (fun _ _ h _ _ => sT.ok (h.set in0 (fun e => absurd (show (3 : Nat) = 8 from e) (by decide))) (Nat.le_refl _) trivial)))
  · exact sT.bind (sT_need h) (fun _ _ h _ _ => sT.bind (sT_as hE hC 8 _ h) (fun _ σa h _ _ => sT.bind ((sT_num h.nx).to (Nat.le_refl _)) (fun v _ h _ hv => sT.bind (hC _ h) (fun _ _ h _ _ => sT.ok (h.set hv (fun e => absurd (show (4 : Nat) = 8 from e) (by decide))) (Nat.le_refl _) trivial))))
  · exact sT.bind (sT_va h) (fun _ _ h _ _ => sT.bind (hE _ _ h) (fun _ _ h _ _ => sT.bind (hC _ h) (fun _ _ h _ _ => sT.ok (h.set in0 (fun e => absurd (show (5 : Nat) = 8 from e) (by decide))) (Nat.le_refl _) trivial)))
  · exact sT.bind (hE _ _ h) (fun _ _ h _ _ => sT.bind (hC _ h) (fun _ _ h _ _ => sT.ok (h.set in0 (fun e => absurd (show (6 : Nat) = 8 from e) (by decide))) (Nat.le_refl _) trivial))
theorem sT_C : ∀ (k : Nat) (σ : ms_S), sOK σ → sT σ (ms_C g L k σ) sTr := by
  intro k
  induction k with
  | zero =>
    intro σ _
    exact sT.er
  | succ k ih =>
    intro σ h
    unfold ms_C
    split
    · exact sT.bind ((ih _ h.nx).to (Nat.le_refl _)) (fun _ _ h _ _ => sT_need h)
    · cases ms_oc σ.t.k with
      | none => exact sT.er
      | some op =>
        dsimp only
        split
        · exact sT.er
        · exact (sT_pt (sT_E k) ih (sOK.nx (σ := σ.add) h)).to (Nat.le_refl _)
theorem ms_read_ok (h : ms_read g L = .ok ((), σ)) : sOK σ := by
  have h0 : sOK (ms_s0 g L) := ⟨ms_nx_in, fun _ => in0, fun _ => bo0, fun m e => absurd e (by show ¬ 0 = 8; decide)⟩
  have hT : sT (ms_s0 g L) (ms_read g L) sTr := by
    unfold ms_read
    refine sT.bind (sT_C 100 _ h0) (fun _ σ1 h1 _ _ => ?_)
    split
    · exact sT.ok h1 (Nat.le_refl _) trivial
    · exact sT.er
  exact (hT () σ h).1
end
