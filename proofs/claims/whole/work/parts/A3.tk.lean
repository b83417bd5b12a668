/-! the second object's reading: values and truths -/
theorem of_nn {c : Nat} (h : c ≤ 1000000) : ¬ Int32.ofNat c < 0 := fun z => by
  have := (of_lt (a := c) (b := 0) h (by omega)).mp z
  omega
theorem of_np {c : Nat} (h : c ≤ 1000000) : (0 : Int32) ≤ Int32.ofNat c := (of_le (a := 0) (b := c) (by omega) h).mpr (Nat.zero_le _)
theorem ms_opV {k : Nat} : ms_op false k = (if k = 37 then some 10 else if k = ms_kc 27 then some 11 else if k = ms_kc 28 then some 12 else if k = ms_kc 42 then some 13 else if k = ms_kc 43 then some 14 else if k = ms_kc 44 then some 15 else if k = ms_kc 45 then some 16 else if k = ms_kc 29 then some 17 else if k = ms_kc 30 then some 18 else if k = ms_kc 31 then some 19 else if k = ms_kc 32 then some 20 else if k = ms_kc 33 then some 21 else none) := rfl
theorem ms_opO {k : Nat} : ms_op true k = (if k = ms_kc 34 then some 22 else if k = ms_kc 35 then some 23 else if k = ms_kc 36 then some 24 else if k = ms_kc 37 then some 25 else if k = ms_kc 38 then some 26 else if k = ms_kc 39 then some 27 else if k = ms_kc 46 then some 28 else if k = ms_kc 47 then some 29 else if k = ms_kc 48 then some 30 else if k = ms_kc 49 then some 31 else if k = ms_kc 50 then some 32 else none) := rfl
section
variable {z z0 z1 : mr_Z} {σ σ0 σ1 : ms_S} {m q n : Nat} {v : Int32} {s : Value}
theorem mr_go.w (h : mr_go z0 σ0 z σ) (hq : q ∈ [509, 510, 511, 512, 513, 514, 515, 516, 529, 530]) (hm : σ0.n ≤ m) : mr_go z0 σ0 (mr_w q m v z) σ :=
  ⟨h.1, h.2.1.trans (mr_w_rf hq), fun p i hp hi => (mr_w_ne (by omega)).trans (h.2.2.1 p i hp hi), h.2.2.2.1, h.2.2.2.2⟩
theorem mr_go.x22 (h : mr_go z0 σ0 z σ) : mr_go z0 σ0 (mr_x22 v z s) σ := ⟨h.1, h.2.1.trans mr_x22_rf, h.2.2⟩
theorem mr_go.set {c : ms_N} (h : mr_go z0 σ0 z σ) (hm : σ0.n ≤ m) : mr_go z0 σ0 z (σ.set m c) :=
  ⟨⟨h.1.1, h.1.2.1, fun i hi => (va_ne (by omega)).trans (h.1.2.2.1 i hi), h.1.2.2.2⟩, h.2⟩
theorem mr_x22_kp : mr_kp m z (mr_x22 v z s) := ⟨fun _ _ => rfl, rfl⟩
end
def mr_mE (b : Bool) : Nat := match b with
  | false => 163
  | true => 167
def mz_sb (b : Bool) : Nat := match b with
  | false => 1
  | true => 2
def mr_okE (n sl : Nat) (s : Value) (g : Nat → Int32) (L : Nat) (Q : (Option Value ⊕ Nat) → mi_H → Prop) (z : mr_Z) (σ : ms_S) (k : Nat) (b : Bool) : Prop := ∀ z' σ', ms_E g L k b σ = .ok ((), σ') → ¬ σ'.t.k = 40 → mr_st n s g L z' σ' k → mr_go z σ z' σ' → mr_rg σ.n σ'.n z' σ' → mz_ok σ'.tb σ'.n k (mz_sb b) σ.n → Q (.inl (some (.int (Int32.ofNat σ.n)))) (n, sl, z'.f)
def mr_erE (n sl : Nat) (s : Value) (g : Nat → Int32) (L : Nat) (Q : (Option Value ⊕ Nat) → mi_H → Prop) (z : mr_Z) (σ : ms_S) (k : Nat) (b : Bool) : Prop := ∀ z' w, ms_bad (ms_E g L k b σ) w → mr_er n s z z' w → Q (.inl (some (.int (-1)))) (n, sl, z'.f)
def mr_IE (n sl : Nat) (s : Value) (g : Nat → Int32) (L : Nat) (k : Nat) : Prop := ∀ (b : Bool) (d : Nat) (z : mr_Z) (σ : ms_S) (Q : (Option Value ⊕ Nat) → mi_H → Prop), k + 14 ≤ d → mr_st n s g L z σ k → mr_okE n sl s g L Q z σ k b → mr_erE n sl s g L Q z σ k b → mi_W d (mr_mE b) 0 (mi_en 4 [.ref 505]) [] (n, sl, z.f) Q
section
variable {d n sl k m op : Nat} {z z0 : mr_Z} {σ σ0 : ms_S} {s : Value} {Q : (Option Value ⊕ Nat) → mi_H → Prop} {g : Nat → Int32} {L : Nat} {o2 o3 o4 : Option Value}
theorem sq_dN (hn : 575 ≤ n) (hz : mr_st n s g L z σ k) (K : ∀ op, ms_op false σ.t.k = some op → mi_W (d + 1 + 1 + 1 + 1 + 1 + 1) 163 253 [some (.ref 505), some (.int (Int32.ofNat op)), o3, o4] [] (n, sl, z.f) Q) (K0 : ∀ z', ms_op false σ.t.k = none → mr_er n s z z' σ.t.a → Q (.inl (some (.int (-1)))) (n, sl, z'.f)) : mi_W (d + 1 + 1 + 1 + 1 + 1 + 1) 163 65 [some (.ref 505), o2, o3, o4] [] (n, sl, z.f) Q := by
  have q505 := hz.1.1
  have h9 := hz.2.2.1.2.2.2.2.1
  have hk37 : z.X 8 = 2 ↔ σ.t.k = 37 := by
    rw [hz.2.2.1.2.2.2.1]
    unfold ms_ct
    constructor
    · intro h
      repeat' split at h
      all_goals first | assumption | (exact absurd h (by decide))
    · intro h
      rw [h]
      rfl
  have ho := ms_opV (k := σ.t.k)
  refine b_163_65 _ _ _ (by first | assumption | (exact mL_get (by decide)) | (rw [mL_len]; decide) | (simp only [mL_set]; exact mL_get (by decide)) | (simp only [mL_set, mL_len]; decide) | (exact va_eq) | (exact (va_ne (by omega)).trans (by assumption)) | (exact (va_ne (by omega)).trans va_eq) | (exact (va_ne (by omega)).trans ((va_ne (by omega)).trans (by assumption))) | (exact (va_ne (by omega)).trans ((va_ne (by omega)).trans ((va_ne (by omega)).trans (by assumption)))) | rfl | (exact Or.inl rfl) | (exact Or.inr rfl) | omega | (exact Nat.le_of_ble_eq_true rfl) | decide | (exact ⟨by decide, rfl, by decide⟩)) (by first | assumption | (exact mL_get (by decide)) | (rw [mL_len]; decide) | (simp only [mL_set]; exact mL_get (by decide)) | (simp only [mL_set, mL_len]; decide) | (exact va_eq) | (exact (va_ne (by omega)).trans (by assumption)) | (exact (va_ne (by omega)).trans va_eq) | (exact (va_ne (by omega)).trans ((va_ne (by omega)).trans (by assumption))) | (exact (va_ne (by omega)).trans ((va_ne (by omega)).trans ((va_ne (by omega)).trans (by assumption)))) | rfl | (exact Or.inl rfl) | (exact Or.inr rfl) | omega | (exact Nat.le_of_ble_eq_true rfl) | decide | (exact ⟨by decide, rfl, by decide⟩)) (by first | assumption | (exact mL_get (by decide)) | (rw [mL_len]; decide) | (simp only [mL_set]; exact mL_get (by decide)) | (simp only [mL_set, mL_len]; decide) | (exact va_eq) | (exact (va_ne (by omega)).trans (by assumption)) | (exact (va_ne (by omega)).trans va_eq) | (exact (va_ne (by omega)).trans ((va_ne (by omega)).trans (by assumption))) | (exact (va_ne (by omega)).trans ((va_ne (by omega)).trans ((va_ne (by omega)).trans (by assumption)))) | rfl | (exact Or.inl rfl) | (exact Or.inr rfl) | omega | (exact Nat.le_of_ble_eq_true rfl) | decide | (exact ⟨by decide, rfl, by decide⟩)) ?_ ?_
  · intro z65
    rw [if_neg (fun e => z65 (hk37.mpr e))] at ho
    refine b_163_78 _ _ _ (by first | assumption | (exact mL_get (by decide)) | (rw [mL_len]; decide) | (simp only [mL_set]; exact mL_get (by decide)) | (simp only [mL_set, mL_len]; decide) | (exact va_eq) | (exact (va_ne (by omega)).trans (by assumption)) | (exact (va_ne (by omega)).trans va_eq) | (exact (va_ne (by omega)).trans ((va_ne (by omega)).trans (by assumption))) | (exact (va_ne (by omega)).trans ((va_ne (by omega)).trans ((va_ne (by omega)).trans (by assumption)))) | rfl | (exact Or.inl rfl) | (exact Or.inr rfl) | omega | (exact Nat.le_of_ble_eq_true rfl) | decide | (exact ⟨by decide, rfl, by decide⟩)) (by first | assumption | (exact mL_get (by decide)) | (rw [mL_len]; decide) | (simp only [mL_set]; exact mL_get (by decide)) | (simp only [mL_set, mL_len]; decide) | (exact va_eq) | (exact (va_ne (by omega)).trans (by assumption)) | (exact (va_ne (by omega)).trans va_eq) | (exact (va_ne (by omega)).trans ((va_ne (by omega)).trans (by assumption))) | (exact (va_ne (by omega)).trans ((va_ne (by omega)).trans ((va_ne (by omega)).trans (by assumption)))) | rfl | (exact Or.inl rfl) | (exact Or.inr rfl) | omega | (exact Nat.le_of_ble_eq_true rfl) | decide | (exact ⟨by decide, rfl, by decide⟩)) ?_
    refine sq_key hn hz (by decide) (fun h => ?_) (fun h => ?_)
    · rw [if_pos h] at ho
      refine b_163_84 _ _ _ ?_ ?_
      · intro z84
        first | (exact absurd z84 (by decide)) | (exact absurd (by decide) z84) | (exact absurd rfl z84) | (exact absurd z84 (of_nn (by omega))) | (exact absurd (of_np (by omega)) z84) | omega
      · intro z84
        refine b_163_87 _ _ _ ?_
        refine b_163_237 _ _ _ ?_ ?_
        · intro z237
          exact K 11 ho
        · intro z237
          first | (exact absurd z237 (by decide)) | (exact absurd (by decide) z237) | (exact absurd rfl z237) | (exact absurd z237 (of_nn (by omega))) | (exact absurd (of_np (by omega)) z237) | omega
    · rw [if_neg h] at ho
      refine b_163_84 _ _ _ ?_ ?_
      · intro z84
        refine b_163_92 _ _ _ (by first | assumption | (exact mL_get (by decide)) | (rw [mL_len]; decide) | (simp only [mL_set]; exact mL_get (by decide)) | (simp only [mL_set, mL_len]; decide) | (exact va_eq) | (exact (va_ne (by omega)).trans (by assumption)) | (exact (va_ne (by omega)).trans va_eq) | (exact (va_ne (by omega)).trans ((va_ne (by omega)).trans (by assumption))) | (exact (va_ne (by omega)).trans ((va_ne (by omega)).trans ((va_ne (by omega)).trans (by assumption)))) | rfl | (exact Or.inl rfl) | (exact Or.inr rfl) | omega | (exact Nat.le_of_ble_eq_true rfl) | decide | (exact ⟨by decide, rfl, by decide⟩)) (by first | assumption | (exact mL_get (by decide)) | (rw [mL_len]; decide) | (simp only [mL_set]; exact mL_get (by decide)) | (simp only [mL_set, mL_len]; decide) | (exact va_eq) | (exact (va_ne (by omega)).trans (by assumption)) | (exact (va_ne (by omega)).trans va_eq) | (exact (va_ne (by omega)).trans ((va_ne (by omega)).trans (by assumption))) | (exact (va_ne (by omega)).trans ((va_ne (by omega)).trans ((va_ne (by omega)).trans (by assumption)))) | rfl | (exact Or.inl rfl) | (exact Or.inr rfl) | omega | (exact Nat.le_of_ble_eq_true rfl) | decide | (exact ⟨by decide, rfl, by decide⟩)) ?_
        refine sq_key hn hz (by decide) (fun h => ?_) (fun h => ?_)
        · rw [if_pos h] at ho
          refine b_163_98 _ _ _ ?_ ?_
          · intro z98
            first | (exact absurd z98 (by decide)) | (exact absurd (by decide) z98) | (exact absurd rfl z98) | (exact absurd z98 (of_nn (by omega))) | (exact absurd (of_np (by omega)) z98) | omega
          · intro z98
            refine b_163_101 _ _ _ ?_
            refine b_163_237 _ _ _ ?_ ?_
            · intro z237
              exact K 12 ho
            · intro z237
              first | (exact absurd z237 (by decide)) | (exact absurd (by decide) z237) | (exact absurd rfl z237) | (exact absurd z237 (of_nn (by omega))) | (exact absurd (of_np (by omega)) z237) | omega
        · rw [if_neg h] at ho
          refine b_163_98 _ _ _ ?_ ?_
          · intro z98
            refine b_163_106 _ _ _ (by first | assumption | (exact mL_get (by decide)) | (rw [mL_len]; decide) | (simp only [mL_set]; exact mL_get (by decide)) | (simp only [mL_set, mL_len]; decide) | (exact va_eq) | (exact (va_ne (by omega)).trans (by assumption)) | (exact (va_ne (by omega)).trans va_eq) | (exact (va_ne (by omega)).trans ((va_ne (by omega)).trans (by assumption))) | (exact (va_ne (by omega)).trans ((va_ne (by omega)).trans ((va_ne (by omega)).trans (by assumption)))) | rfl | (exact Or.inl rfl) | (exact Or.inr rfl) | omega | (exact Nat.le_of_ble_eq_true rfl) | decide | (exact ⟨by decide, rfl, by decide⟩)) (by first | assumption | (exact mL_get (by decide)) | (rw [mL_len]; decide) | (simp only [mL_set]; exact mL_get (by decide)) | (simp only [mL_set, mL_len]; decide) | (exact va_eq) | (exact (va_ne (by omega)).trans (by assumption)) | (exact (va_ne (by omega)).trans va_eq) | (exact (va_ne (by omega)).trans ((va_ne (by omega)).trans (by assumption))) | (exact (va_ne (by omega)).trans ((va_ne (by omega)).trans ((va_ne (by omega)).trans (by assumption)))) | rfl | (exact Or.inl rfl) | (exact Or.inr rfl) | omega | (exact Nat.le_of_ble_eq_true rfl) | decide | (exact ⟨by decide, rfl, by decide⟩)) ?_
            refine sq_sign hn hz (by decide) (fun h => ?_) (fun h => ?_)
            · rw [if_pos h] at ho
              refine b_163_113 _ _ _ ?_ ?_
              · intro z113
                first | (exact absurd z113 (by decide)) | (exact absurd (by decide) z113) | (exact absurd rfl z113) | (exact absurd z113 (of_nn (by omega))) | (exact absurd (of_np (by omega)) z113) | omega
              · intro z113
                refine b_163_116 _ _ _ ?_
                refine b_163_237 _ _ _ ?_ ?_
                · intro z237
                  exact K 13 ho
                · intro z237
                  first | (exact absurd z237 (by decide)) | (exact absurd (by decide) z237) | (exact absurd rfl z237) | (exact absurd z237 (of_nn (by omega))) | (exact absurd (of_np (by omega)) z237) | omega
            · rw [if_neg h] at ho
              refine b_163_113 _ _ _ ?_ ?_
              · intro z113
                refine b_163_121 _ _ _ (by first | assumption | (exact mL_get (by decide)) | (rw [mL_len]; decide) | (simp only [mL_set]; exact mL_get (by decide)) | (simp only [mL_set, mL_len]; decide) | (exact va_eq) | (exact (va_ne (by omega)).trans (by assumption)) | (exact (va_ne (by omega)).trans va_eq) | (exact (va_ne (by omega)).trans ((va_ne (by omega)).trans (by assumption))) | (exact (va_ne (by omega)).trans ((va_ne (by omega)).trans ((va_ne (by omega)).trans (by assumption)))) | rfl | (exact Or.inl rfl) | (exact Or.inr rfl) | omega | (exact Nat.le_of_ble_eq_true rfl) | decide | (exact ⟨by decide, rfl, by decide⟩)) (by first | assumption | (exact mL_get (by decide)) | (rw [mL_len]; decide) | (simp only [mL_set]; exact mL_get (by decide)) | (simp only [mL_set, mL_len]; decide) | (exact va_eq) | (exact (va_ne (by omega)).trans (by assumption)) | (exact (va_ne (by omega)).trans va_eq) | (exact (va_ne (by omega)).trans ((va_ne (by omega)).trans (by assumption))) | (exact (va_ne (by omega)).trans ((va_ne (by omega)).trans ((va_ne (by omega)).trans (by assumption)))) | rfl | (exact Or.inl rfl) | (exact Or.inr rfl) | omega | (exact Nat.le_of_ble_eq_true rfl) | decide | (exact ⟨by decide, rfl, by decide⟩)) ?_
                refine sq_sign hn hz (by decide) (fun h => ?_) (fun h => ?_)
                · rw [if_pos h] at ho
                  refine b_163_128 _ _ _ ?_ ?_
                  · intro z128
                    first | (exact absurd z128 (by decide)) | (exact absurd (by decide) z128) | (exact absurd rfl z128) | (exact absurd z128 (of_nn (by omega))) | (exact absurd (of_np (by omega)) z128) | omega
                  · intro z128
                    refine b_163_131 _ _ _ ?_
                    refine b_163_237 _ _ _ ?_ ?_
                    · intro z237
                      exact K 14 ho
                    · intro z237
                      first | (exact absurd z237 (by decide)) | (exact absurd (by decide) z237) | (exact absurd rfl z237) | (exact absurd z237 (of_nn (by omega))) | (exact absurd (of_np (by omega)) z237) | omega
                · rw [if_neg h] at ho
                  refine b_163_128 _ _ _ ?_ ?_
                  · intro z128
                    refine b_163_136 _ _ _ (by first | assumption | (exact mL_get (by decide)) | (rw [mL_len]; decide) | (simp only [mL_set]; exact mL_get (by decide)) | (simp only [mL_set, mL_len]; decide) | (exact va_eq) | (exact (va_ne (by omega)).trans (by assumption)) | (exact (va_ne (by omega)).trans va_eq) | (exact (va_ne (by omega)).trans ((va_ne (by omega)).trans (by assumption))) | (exact (va_ne (by omega)).trans ((va_ne (by omega)).trans ((va_ne (by omega)).trans (by assumption)))) | rfl | (exact Or.inl rfl) | (exact Or.inr rfl) | omega | (exact Nat.le_of_ble_eq_true rfl) | decide | (exact ⟨by decide, rfl, by decide⟩)) (by first | assumption | (exact mL_get (by decide)) | (rw [mL_len]; decide) | (simp only [mL_set]; exact mL_get (by decide)) | (simp only [mL_set, mL_len]; decide) | (exact va_eq) | (exact (va_ne (by omega)).trans (by assumption)) | (exact (va_ne (by omega)).trans va_eq) | (exact (va_ne (by omega)).trans ((va_ne (by omega)).trans (by assumption))) | (exact (va_ne (by omega)).trans ((va_ne (by omega)).trans ((va_ne (by omega)).trans (by assumption)))) | rfl | (exact Or.inl rfl) | (exact Or.inr rfl) | omega | (exact Nat.le_of_ble_eq_true rfl) | decide | (exact ⟨by decide, rfl, by decide⟩)) ?_
                    refine sq_sign hn hz (by decide) (fun h => ?_) (fun h => ?_)
                    · rw [if_pos h] at ho
                      refine b_163_143 _ _ _ ?_ ?_
                      · intro z143
                        first | (exact absurd z143 (by decide)) | (exact absurd (by decide) z143) | (exact absurd rfl z143) | (exact absurd z143 (of_nn (by omega))) | (exact absurd (of_np (by omega)) z143) | omega
                      · intro z143
                        refine b_163_146 _ _ _ ?_
                        refine b_163_237 _ _ _ ?_ ?_
                        · intro z237
                          exact K 15 ho
                        · intro z237
                          first | (exact absurd z237 (by decide)) | (exact absurd (by decide) z237) | (exact absurd rfl z237) | (exact absurd z237 (of_nn (by omega))) | (exact absurd (of_np (by omega)) z237) | omega
                    · rw [if_neg h] at ho
                      refine b_163_143 _ _ _ ?_ ?_
                      · intro z143
                        refine b_163_151 _ _ _ (by first | assumption | (exact mL_get (by decide)) | (rw [mL_len]; decide) | (simp only [mL_set]; exact mL_get (by decide)) | (simp only [mL_set, mL_len]; decide) | (exact va_eq) | (exact (va_ne (by omega)).trans (by assumption)) | (exact (va_ne (by omega)).trans va_eq) | (exact (va_ne (by omega)).trans ((va_ne (by omega)).trans (by assumption))) | (exact (va_ne (by omega)).trans ((va_ne (by omega)).trans ((va_ne (by omega)).trans (by assumption)))) | rfl | (exact Or.inl rfl) | (exact Or.inr rfl) | omega | (exact Nat.le_of_ble_eq_true rfl) | decide | (exact ⟨by decide, rfl, by decide⟩)) (by first | assumption | (exact mL_get (by decide)) | (rw [mL_len]; decide) | (simp only [mL_set]; exact mL_get (by decide)) | (simp only [mL_set, mL_len]; decide) | (exact va_eq) | (exact (va_ne (by omega)).trans (by assumption)) | (exact (va_ne (by omega)).trans va_eq) | (exact (va_ne (by omega)).trans ((va_ne (by omega)).trans (by assumption))) | (exact (va_ne (by omega)).trans ((va_ne (by omega)).trans ((va_ne (by omega)).trans (by assumption)))) | rfl | (exact Or.inl rfl) | (exact Or.inr rfl) | omega | (exact Nat.le_of_ble_eq_true rfl) | decide | (exact ⟨by decide, rfl, by decide⟩)) ?_
                        refine sq_sign hn hz (by decide) (fun h => ?_) (fun h => ?_)
                        · rw [if_pos h] at ho
                          refine b_163_158 _ _ _ ?_ ?_
                          · intro z158
                            first | (exact absurd z158 (by decide)) | (exact absurd (by decide) z158) | (exact absurd rfl z158) | (exact absurd z158 (of_nn (by omega))) | (exact absurd (of_np (by omega)) z158) | omega
                          · intro z158
                            refine b_163_161 _ _ _ ?_
                            refine b_163_237 _ _ _ ?_ ?_
                            · intro z237
                              exact K 16 ho
                            · intro z237
                              first | (exact absurd z237 (by decide)) | (exact absurd (by decide) z237) | (exact absurd rfl z237) | (exact absurd z237 (of_nn (by omega))) | (exact absurd (of_np (by omega)) z237) | omega
                        · rw [if_neg h] at ho
                          refine b_163_158 _ _ _ ?_ ?_
                          · intro z158
                            refine b_163_166 _ _ _ (by first | assumption | (exact mL_get (by decide)) | (rw [mL_len]; decide) | (simp only [mL_set]; exact mL_get (by decide)) | (simp only [mL_set, mL_len]; decide) | (exact va_eq) | (exact (va_ne (by omega)).trans (by assumption)) | (exact (va_ne (by omega)).trans va_eq) | (exact (va_ne (by omega)).trans ((va_ne (by omega)).trans (by assumption))) | (exact (va_ne (by omega)).trans ((va_ne (by omega)).trans ((va_ne (by omega)).trans (by assumption)))) | rfl | (exact Or.inl rfl) | (exact Or.inr rfl) | omega | (exact Nat.le_of_ble_eq_true rfl) | decide | (exact ⟨by decide, rfl, by decide⟩)) (by first | assumption | (exact mL_get (by decide)) | (rw [mL_len]; decide) | (simp only [mL_set]; exact mL_get (by decide)) | (simp only [mL_set, mL_len]; decide) | (exact va_eq) | (exact (va_ne (by omega)).trans (by assumption)) | (exact (va_ne (by omega)).trans va_eq) | (exact (va_ne (by omega)).trans ((va_ne (by omega)).trans (by assumption))) | (exact (va_ne (by omega)).trans ((va_ne (by omega)).trans ((va_ne (by omega)).trans (by assumption)))) | rfl | (exact Or.inl rfl) | (exact Or.inr rfl) | omega | (exact Nat.le_of_ble_eq_true rfl) | decide | (exact ⟨by decide, rfl, by decide⟩)) ?_
                            refine sq_key hn hz (by decide) (fun h => ?_) (fun h => ?_)
                            · rw [if_pos h] at ho
                              refine b_163_172 _ _ _ ?_ ?_
                              · intro z172
                                first | (exact absurd z172 (by decide)) | (exact absurd (by decide) z172) | (exact absurd rfl z172) | (exact absurd z172 (of_nn (by omega))) | (exact absurd (of_np (by omega)) z172) | omega
                              · intro z172
                                refine b_163_175 _ _ _ ?_
                                refine b_163_237 _ _ _ ?_ ?_
                                · intro z237
                                  exact K 17 ho
                                · intro z237
                                  first | (exact absurd z237 (by decide)) | (exact absurd (by decide) z237) | (exact absurd rfl z237) | (exact absurd z237 (of_nn (by omega))) | (exact absurd (of_np (by omega)) z237) | omega
                            · rw [if_neg h] at ho
                              refine b_163_172 _ _ _ ?_ ?_
                              · intro z172
                                refine b_163_180 _ _ _ (by first | assumption | (exact mL_get (by decide)) | (rw [mL_len]; decide) | (simp only [mL_set]; exact mL_get (by decide)) | (simp only [mL_set, mL_len]; decide) | (exact va_eq) | (exact (va_ne (by omega)).trans (by assumption)) | (exact (va_ne (by omega)).trans va_eq) | (exact (va_ne (by omega)).trans ((va_ne (by omega)).trans (by assumption))) | (exact (va_ne (by omega)).trans ((va_ne (by omega)).trans ((va_ne (by omega)).trans (by assumption)))) | rfl | (exact Or.inl rfl) | (exact Or.inr rfl) | omega | (exact Nat.le_of_ble_eq_true rfl) | decide | (exact ⟨by decide, rfl, by decide⟩)) (by first | assumption | (exact mL_get (by decide)) | (rw [mL_len]; decide) | (simp only [mL_set]; exact mL_get (by decide)) | (simp only [mL_set, mL_len]; decide) | (exact va_eq) | (exact (va_ne (by omega)).trans (by assumption)) | (exact (va_ne (by omega)).trans va_eq) | (exact (va_ne (by omega)).trans ((va_ne (by omega)).trans (by assumption))) | (exact (va_ne (by omega)).trans ((va_ne (by omega)).trans ((va_ne (by omega)).trans (by assumption)))) | rfl | (exact Or.inl rfl) | (exact Or.inr rfl) | omega | (exact Nat.le_of_ble_eq_true rfl) | decide | (exact ⟨by decide, rfl, by decide⟩)) ?_
                                refine sq_key hn hz (by decide) (fun h => ?_) (fun h => ?_)
                                · rw [if_pos h] at ho
                                  refine b_163_186 _ _ _ ?_ ?_
                                  · intro z186
                                    first | (exact absurd z186 (by decide)) | (exact absurd (by decide) z186) | (exact absurd rfl z186) | (exact absurd z186 (of_nn (by omega))) | (exact absurd (of_np (by omega)) z186) | omega
                                  · intro z186
                                    refine b_163_189 _ _ _ ?_
                                    refine b_163_237 _ _ _ ?_ ?_
                                    · intro z237
                                      exact K 18 ho
                                    · intro z237
                                      first | (exact absurd z237 (by decide)) | (exact absurd (by decide) z237) | (exact absurd rfl z237) | (exact absurd z237 (of_nn (by omega))) | (exact absurd (of_np (by omega)) z237) | omega
                                · rw [if_neg h] at ho
                                  refine b_163_186 _ _ _ ?_ ?_
                                  · intro z186
                                    refine b_163_194 _ _ _ (by first | assumption | (exact mL_get (by decide)) | (rw [mL_len]; decide) | (simp only [mL_set]; exact mL_get (by decide)) | (simp only [mL_set, mL_len]; decide) | (exact va_eq) | (exact (va_ne (by omega)).trans (by assumption)) | (exact (va_ne (by omega)).trans va_eq) | (exact (va_ne (by omega)).trans ((va_ne (by omega)).trans (by assumption))) | (exact (va_ne (by omega)).trans ((va_ne (by omega)).trans ((va_ne (by omega)).trans (by assumption)))) | rfl | (exact Or.inl rfl) | (exact Or.inr rfl) | omega | (exact Nat.le_of_ble_eq_true rfl) | decide | (exact ⟨by decide, rfl, by decide⟩)) (by first | assumption | (exact mL_get (by decide)) | (rw [mL_len]; decide) | (simp only [mL_set]; exact mL_get (by decide)) | (simp only [mL_set, mL_len]; decide) | (exact va_eq) | (exact (va_ne (by omega)).trans (by assumption)) | (exact (va_ne (by omega)).trans va_eq) | (exact (va_ne (by omega)).trans ((va_ne (by omega)).trans (by assumption))) | (exact (va_ne (by omega)).trans ((va_ne (by omega)).trans ((va_ne (by omega)).trans (by assumption)))) | rfl | (exact Or.inl rfl) | (exact Or.inr rfl) | omega | (exact Nat.le_of_ble_eq_true rfl) | decide | (exact ⟨by decide, rfl, by decide⟩)) ?_
                                    refine sq_key hn hz (by decide) (fun h => ?_) (fun h => ?_)
                                    · rw [if_pos h] at ho
                                      refine b_163_200 _ _ _ ?_ ?_
                                      · intro z200
                                        first | (exact absurd z200 (by decide)) | (exact absurd (by decide) z200) | (exact absurd rfl z200) | (exact absurd z200 (of_nn (by omega))) | (exact absurd (of_np (by omega)) z200) | omega
                                      · intro z200
                                        refine b_163_203 _ _ _ ?_
                                        refine b_163_237 _ _ _ ?_ ?_
                                        · intro z237
                                          exact K 19 ho
                                        · intro z237
                                          first | (exact absurd z237 (by decide)) | (exact absurd (by decide) z237) | (exact absurd rfl z237) | (exact absurd z237 (of_nn (by omega))) | (exact absurd (of_np (by omega)) z237) | omega
                                    · rw [if_neg h] at ho
                                      refine b_163_200 _ _ _ ?_ ?_
                                      · intro z200
                                        refine b_163_208 _ _ _ (by first | assumption | (exact mL_get (by decide)) | (rw [mL_len]; decide) | (simp only [mL_set]; exact mL_get (by decide)) | (simp only [mL_set, mL_len]; decide) | (exact va_eq) | (exact (va_ne (by omega)).trans (by assumption)) | (exact (va_ne (by omega)).trans va_eq) | (exact (va_ne (by omega)).trans ((va_ne (by omega)).trans (by assumption))) | (exact (va_ne (by omega)).trans ((va_ne (by omega)).trans ((va_ne (by omega)).trans (by assumption)))) | rfl | (exact Or.inl rfl) | (exact Or.inr rfl) | omega | (exact Nat.le_of_ble_eq_true rfl) | decide | (exact ⟨by decide, rfl, by decide⟩)) (by first | assumption | (exact mL_get (by decide)) | (rw [mL_len]; decide) | (simp only [mL_set]; exact mL_get (by decide)) | (simp only [mL_set, mL_len]; decide) | (exact va_eq) | (exact (va_ne (by omega)).trans (by assumption)) | (exact (va_ne (by omega)).trans va_eq) | (exact (va_ne (by omega)).trans ((va_ne (by omega)).trans (by assumption))) | (exact (va_ne (by omega)).trans ((va_ne (by omega)).trans ((va_ne (by omega)).trans (by assumption)))) | rfl | (exact Or.inl rfl) | (exact Or.inr rfl) | omega | (exact Nat.le_of_ble_eq_true rfl) | decide | (exact ⟨by decide, rfl, by decide⟩)) ?_
                                        refine sq_key hn hz (by decide) (fun h => ?_) (fun h => ?_)
                                        · rw [if_pos h] at ho
                                          refine b_163_214 _ _ _ ?_ ?_
                                          · intro z214
                                            first | (exact absurd z214 (by decide)) | (exact absurd (by decide) z214) | (exact absurd rfl z214) | (exact absurd z214 (of_nn (by omega))) | (exact absurd (of_np (by omega)) z214) | omega
                                          · intro z214
                                            refine b_163_217 _ _ _ ?_
                                            refine b_163_237 _ _ _ ?_ ?_
                                            · intro z237
                                              exact K 20 ho
                                            · intro z237
                                              first | (exact absurd z237 (by decide)) | (exact absurd (by decide) z237) | (exact absurd rfl z237) | (exact absurd z237 (of_nn (by omega))) | (exact absurd (of_np (by omega)) z237) | omega
                                        · rw [if_neg h] at ho
                                          refine b_163_214 _ _ _ ?_ ?_
                                          · intro z214
                                            refine b_163_222 _ _ _ (by first | assumption | (exact mL_get (by decide)) | (rw [mL_len]; decide) | (simp only [mL_set]; exact mL_get (by decide)) | (simp only [mL_set, mL_len]; decide) | (exact va_eq) | (exact (va_ne (by omega)).trans (by assumption)) | (exact (va_ne (by omega)).trans va_eq) | (exact (va_ne (by omega)).trans ((va_ne (by omega)).trans (by assumption))) | (exact (va_ne (by omega)).trans ((va_ne (by omega)).trans ((va_ne (by omega)).trans (by assumption)))) | rfl | (exact Or.inl rfl) | (exact Or.inr rfl) | omega | (exact Nat.le_of_ble_eq_true rfl) | decide | (exact ⟨by decide, rfl, by decide⟩)) (by first | assumption | (exact mL_get (by decide)) | (rw [mL_len]; decide) | (simp only [mL_set]; exact mL_get (by decide)) | (simp only [mL_set, mL_len]; decide) | (exact va_eq) | (exact (va_ne (by omega)).trans (by assumption)) | (exact (va_ne (by omega)).trans va_eq) | (exact (va_ne (by omega)).trans ((va_ne (by omega)).trans (by assumption))) | (exact (va_ne (by omega)).trans ((va_ne (by omega)).trans ((va_ne (by omega)).trans (by assumption)))) | rfl | (exact Or.inl rfl) | (exact Or.inr rfl) | omega | (exact Nat.le_of_ble_eq_true rfl) | decide | (exact ⟨by decide, rfl, by decide⟩)) ?_
                                            refine sq_key hn hz (by decide) (fun h => ?_) (fun h => ?_)
                                            · rw [if_pos h] at ho
                                              refine b_163_228 _ _ _ ?_ ?_
                                              · intro z228
                                                first | (exact absurd z228 (by decide)) | (exact absurd (by decide) z228) | (exact absurd rfl z228) | (exact absurd z228 (of_nn (by omega))) | (exact absurd (of_np (by omega)) z228) | omega
                                              · intro z228
                                                refine b_163_231 _ _ _ ?_
                                                refine b_163_237 _ _ _ ?_ ?_
                                                · intro z237
                                                  exact K 21 ho
                                                · intro z237
                                                  first | (exact absurd z237 (by decide)) | (exact absurd (by decide) z237) | (exact absurd rfl z237) | (exact absurd z237 (of_nn (by omega))) | (exact absurd (of_np (by omega)) z237) | omega
                                            · rw [if_neg h] at ho
                                              refine b_163_228 _ _ _ ?_ ?_
                                              · intro z228
                                                refine b_163_236 _ _ _ ?_
                                                refine b_163_237 _ _ _ ?_ ?_
                                                · intro z237
                                                  first | (exact absurd z237 (by decide)) | (exact absurd (by decide) z237) | (exact absurd rfl z237) | (exact absurd z237 (of_nn (by omega))) | (exact absurd (of_np (by omega)) z237) | omega
                                                · intro z237
                                                  refine b_163_242 _ _ _ (by first | assumption | (exact mL_get (by decide)) | (rw [mL_len]; decide) | (simp only [mL_set]; exact mL_get (by decide)) | (simp only [mL_set, mL_len]; decide) | (exact va_eq) | (exact (va_ne (by omega)).trans (by assumption)) | (exact (va_ne (by omega)).trans va_eq) | (exact (va_ne (by omega)).trans ((va_ne (by omega)).trans (by assumption))) | (exact (va_ne (by omega)).trans ((va_ne (by omega)).trans ((va_ne (by omega)).trans (by assumption)))) | rfl | (exact Or.inl rfl) | (exact Or.inr rfl) | omega | (exact Nat.le_of_ble_eq_true rfl) | decide | (exact ⟨by decide, rfl, by decide⟩)) (by first | assumption | (exact mL_get (by decide)) | (rw [mL_len]; decide) | (simp only [mL_set]; exact mL_get (by decide)) | (simp only [mL_set, mL_len]; decide) | (exact va_eq) | (exact (va_ne (by omega)).trans (by assumption)) | (exact (va_ne (by omega)).trans va_eq) | (exact (va_ne (by omega)).trans ((va_ne (by omega)).trans (by assumption))) | (exact (va_ne (by omega)).trans ((va_ne (by omega)).trans ((va_ne (by omega)).trans (by assumption)))) | rfl | (exact Or.inl rfl) | (exact Or.inr rfl) | omega | (exact Nat.le_of_ble_eq_true rfl) | decide | (exact ⟨by decide, rfl, by decide⟩)) (by first | assumption | (exact mL_get (by decide)) | (rw [mL_len]; decide) | (simp only [mL_set]; exact mL_get (by decide)) | (simp only [mL_set, mL_len]; decide) | (exact va_eq) | (exact (va_ne (by omega)).trans (by assumption)) | (exact (va_ne (by omega)).trans va_eq) | (exact (va_ne (by omega)).trans ((va_ne (by omega)).trans (by assumption))) | (exact (va_ne (by omega)).trans ((va_ne (by omega)).trans ((va_ne (by omega)).trans (by assumption)))) | rfl | (exact Or.inl rfl) | (exact Or.inr rfl) | omega | (exact Nat.le_of_ble_eq_true rfl) | decide | (exact ⟨by decide, rfl, by decide⟩)) (by first | assumption | (exact mL_get (by decide)) | (rw [mL_len]; decide) | (simp only [mL_set]; exact mL_get (by decide)) | (simp only [mL_set, mL_len]; decide) | (exact va_eq) | (exact (va_ne (by omega)).trans (by assumption)) | (exact (va_ne (by omega)).trans va_eq) | (exact (va_ne (by omega)).trans ((va_ne (by omega)).trans (by assumption))) | (exact (va_ne (by omega)).trans ((va_ne (by omega)).trans ((va_ne (by omega)).trans (by assumption)))) | rfl | (exact Or.inl rfl) | (exact Or.inr rfl) | omega | (exact Nat.le_of_ble_eq_true rfl) | decide | (exact ⟨by decide, rfl, by decide⟩)) (by first | assumption | (exact mL_get (by decide)) | (rw [mL_len]; decide) | (simp only [mL_set]; exact mL_get (by decide)) | (simp only [mL_set, mL_len]; decide) | (exact va_eq) | (exact (va_ne (by omega)).trans (by assumption)) | (exact (va_ne (by omega)).trans va_eq) | (exact (va_ne (by omega)).trans ((va_ne (by omega)).trans (by assumption))) | (exact (va_ne (by omega)).trans ((va_ne (by omega)).trans ((va_ne (by omega)).trans (by assumption)))) | rfl | (exact Or.inl rfl) | (exact Or.inr rfl) | omega | (exact Nat.le_of_ble_eq_true rfl) | decide | (exact ⟨by decide, rfl, by decide⟩)) ?_
                                                  rw [h9]
                                                  refine sq_bad hn hz (fun z' a1 => ?_)
                                                  refine b_163_250 _ _ _ ?_
                                                  exact K0 z' ho a1
                                              · intro z228
                                                first | (exact absurd z228 (by decide)) | (exact absurd (by decide) z228) | (exact absurd rfl z228) | (exact absurd z228 (of_nn (by omega))) | (exact absurd (of_np (by omega)) z228) | omega
                                          · intro z214
                                            first | (exact absurd z214 (by decide)) | (exact absurd (by decide) z214) | (exact absurd rfl z214) | (exact absurd z214 (of_nn (by omega))) | (exact absurd (of_np (by omega)) z214) | omega
                                      · intro z200
                                        first | (exact absurd z200 (by decide)) | (exact absurd (by decide) z200) | (exact absurd rfl z200) | (exact absurd z200 (of_nn (by omega))) | (exact absurd (of_np (by omega)) z200) | omega
                                  · intro z186
                                    first | (exact absurd z186 (by decide)) | (exact absurd (by decide) z186) | (exact absurd rfl z186) | (exact absurd z186 (of_nn (by omega))) | (exact absurd (of_np (by omega)) z186) | omega
                              · intro z172
                                first | (exact absurd z172 (by decide)) | (exact absurd (by decide) z172) | (exact absurd rfl z172) | (exact absurd z172 (of_nn (by omega))) | (exact absurd (of_np (by omega)) z172) | omega
                          · intro z158
                            first | (exact absurd z158 (by decide)) | (exact absurd (by decide) z158) | (exact absurd rfl z158) | (exact absurd z158 (of_nn (by omega))) | (exact absurd (of_np (by omega)) z158) | omega
                      · intro z143
                        first | (exact absurd z143 (by decide)) | (exact absurd (by decide) z143) | (exact absurd rfl z143) | (exact absurd z143 (of_nn (by omega))) | (exact absurd (of_np (by omega)) z143) | omega
                  · intro z128
                    first | (exact absurd z128 (by decide)) | (exact absurd (by decide) z128) | (exact absurd rfl z128) | (exact absurd z128 (of_nn (by omega))) | (exact absurd (of_np (by omega)) z128) | omega
              · intro z113
                first | (exact absurd z113 (by decide)) | (exact absurd (by decide) z113) | (exact absurd rfl z113) | (exact absurd z113 (of_nn (by omega))) | (exact absurd (of_np (by omega)) z113) | omega
          · intro z98
            first | (exact absurd z98 (by decide)) | (exact absurd (by decide) z98) | (exact absurd rfl z98) | (exact absurd z98 (of_nn (by omega))) | (exact absurd (of_np (by omega)) z98) | omega
      · intro z84
        first | (exact absurd z84 (by decide)) | (exact absurd (by decide) z84) | (exact absurd rfl z84) | (exact absurd z84 (of_nn (by omega))) | (exact absurd (of_np (by omega)) z84) | omega
  · intro z65
    rw [if_pos (hk37.mp (Classical.not_not.mp z65))] at ho
    refine b_163_73 _ _ _ ?_
    refine b_163_237 _ _ _ ?_ ?_
    · intro z237
      exact K 10 ho
    · intro z237
      first | (exact absurd z237 (by decide)) | (exact absurd (by decide) z237) | (exact absurd rfl z237) | (exact absurd z237 (of_nn (by omega))) | (exact absurd (of_np (by omega)) z237) | omega
theorem sq_fN (hn : 575 ≤ n) (hz : mr_st n s g L z σ k) (hk : k < 100) (K : mr_st n s g L (mr_x22 (z.X 22 - 1) z s) σ (k + 1) → Q (.inl (some (.int (Int32.ofNat m)))) (n, sl, (mr_x22 (z.X 22 - 1) z s).f)) : mi_W d 163 558 [some (.ref 505), some (.int (Int32.ofNat op)), some (.int (Int32.ofNat m)), some (.int 1)] [] (n, sl, z.f) Q := by
  have q505 := hz.1.1
  have h22 : z.X 22 = _ := hz.2.2.2.2.2.1.1
  have hst := mr_x22_st (v := z.X 22 - 1) (j := k + 1) hz (by rw [h22, show (1 : Int32) = Int32.ofNat 1 from rfl, of_sub' (by omega), show 100 - k - 1 = 100 - (k + 1) by omega]) (by omega)
  refine b_163_558 _ _ _ (by first | assumption | (exact mL_get (by decide)) | (rw [mL_len]; decide) | (simp only [mL_set]; exact mL_get (by decide)) | (simp only [mL_set, mL_len]; decide) | (exact va_eq) | (exact (va_ne (by omega)).trans (by assumption)) | (exact (va_ne (by omega)).trans va_eq) | (exact (va_ne (by omega)).trans ((va_ne (by omega)).trans (by assumption))) | (exact (va_ne (by omega)).trans ((va_ne (by omega)).trans ((va_ne (by omega)).trans (by assumption)))) | rfl | (exact Or.inl rfl) | (exact Or.inr rfl) | omega | (exact Nat.le_of_ble_eq_true rfl) | decide | (exact ⟨by decide, rfl, by decide⟩)) (by first | assumption | (exact mL_get (by decide)) | (rw [mL_len]; decide) | (simp only [mL_set]; exact mL_get (by decide)) | (simp only [mL_set, mL_len]; decide) | (exact va_eq) | (exact (va_ne (by omega)).trans (by assumption)) | (exact (va_ne (by omega)).trans va_eq) | (exact (va_ne (by omega)).trans ((va_ne (by omega)).trans (by assumption))) | (exact (va_ne (by omega)).trans ((va_ne (by omega)).trans ((va_ne (by omega)).trans (by assumption)))) | rfl | (exact Or.inl rfl) | (exact Or.inr rfl) | omega | (exact Nat.le_of_ble_eq_true rfl) | decide | (exact ⟨by decide, rfl, by decide⟩)) (by first | assumption | (exact mL_get (by decide)) | (rw [mL_len]; decide) | (simp only [mL_set]; exact mL_get (by decide)) | (simp only [mL_set, mL_len]; decide) | (exact va_eq) | (exact (va_ne (by omega)).trans (by assumption)) | (exact (va_ne (by omega)).trans va_eq) | (exact (va_ne (by omega)).trans ((va_ne (by omega)).trans (by assumption))) | (exact (va_ne (by omega)).trans ((va_ne (by omega)).trans ((va_ne (by omega)).trans (by assumption)))) | rfl | (exact Or.inl rfl) | (exact Or.inr rfl) | omega | (exact Nat.le_of_ble_eq_true rfl) | decide | (exact ⟨by decide, rfl, by decide⟩)) (by first | assumption | (exact mL_get (by decide)) | (rw [mL_len]; decide) | (simp only [mL_set]; exact mL_get (by decide)) | (simp only [mL_set, mL_len]; decide) | (exact va_eq) | (exact (va_ne (by omega)).trans (by assumption)) | (exact (va_ne (by omega)).trans va_eq) | (exact (va_ne (by omega)).trans ((va_ne (by omega)).trans (by assumption))) | (exact (va_ne (by omega)).trans ((va_ne (by omega)).trans ((va_ne (by omega)).trans (by assumption)))) | rfl | (exact Or.inl rfl) | (exact Or.inr rfl) | omega | (exact Nat.le_of_ble_eq_true rfl) | decide | (exact ⟨by decide, rfl, by decide⟩)) (by first | assumption | (exact mL_get (by decide)) | (rw [mL_len]; decide) | (simp only [mL_set]; exact mL_get (by decide)) | (simp only [mL_set, mL_len]; decide) | (exact va_eq) | (exact (va_ne (by omega)).trans (by assumption)) | (exact (va_ne (by omega)).trans va_eq) | (exact (va_ne (by omega)).trans ((va_ne (by omega)).trans (by assumption))) | (exact (va_ne (by omega)).trans ((va_ne (by omega)).trans ((va_ne (by omega)).trans (by assumption)))) | rfl | (exact Or.inl rfl) | (exact Or.inr rfl) | omega | (exact Nat.le_of_ble_eq_true rfl) | decide | (exact ⟨by decide, rfl, by decide⟩)) (by first | assumption | (exact mL_get (by decide)) | (rw [mL_len]; decide) | (simp only [mL_set]; exact mL_get (by decide)) | (simp only [mL_set, mL_len]; decide) | (exact va_eq) | (exact (va_ne (by omega)).trans (by assumption)) | (exact (va_ne (by omega)).trans va_eq) | (exact (va_ne (by omega)).trans ((va_ne (by omega)).trans (by assumption))) | (exact (va_ne (by omega)).trans ((va_ne (by omega)).trans ((va_ne (by omega)).trans (by assumption)))) | rfl | (exact Or.inl rfl) | (exact Or.inr rfl) | omega | (exact Nat.le_of_ble_eq_true rfl) | decide | (exact ⟨by decide, rfl, by decide⟩)) ?_ ?_
  · intro z558
    first | (exact absurd z558 (by decide)) | (exact absurd (by decide) z558) | (exact absurd rfl z558) | (exact absurd z558 (of_nn (by omega))) | (exact absurd (of_np (by omega)) z558) | omega
  · intro z558
    refine b_163_572 _ _ _ ?_
    refine b_163_577 _ _ _ ?_
    exact K hst
theorem sq_gN {w : Nat} (hn : 575 ≤ n) (he : mr_er n s z0 z w) (K : ∀ z', mr_er n s z0 z' w → Q (.inl (some (.int (-1)))) (n, sl, z'.f)) {l2 l3 : Int32} : mi_W d 163 558 [some (.ref 505), some (.int l2), some (.int l3), some (.int 0)] [] (n, sl, z.f) Q := by
  have q505 := he.1.1
  refine b_163_558 _ _ _ (by first | assumption | (exact mL_get (by decide)) | (rw [mL_len]; decide) | (simp only [mL_set]; exact mL_get (by decide)) | (simp only [mL_set, mL_len]; decide) | (exact va_eq) | (exact (va_ne (by omega)).trans (by assumption)) | (exact (va_ne (by omega)).trans va_eq) | (exact (va_ne (by omega)).trans ((va_ne (by omega)).trans (by assumption))) | (exact (va_ne (by omega)).trans ((va_ne (by omega)).trans ((va_ne (by omega)).trans (by assumption)))) | rfl | (exact Or.inl rfl) | (exact Or.inr rfl) | omega | (exact Nat.le_of_ble_eq_true rfl) | decide | (exact ⟨by decide, rfl, by decide⟩)) (by first | assumption | (exact mL_get (by decide)) | (rw [mL_len]; decide) | (simp only [mL_set]; exact mL_get (by decide)) | (simp only [mL_set, mL_len]; decide) | (exact va_eq) | (exact (va_ne (by omega)).trans (by assumption)) | (exact (va_ne (by omega)).trans va_eq) | (exact (va_ne (by omega)).trans ((va_ne (by omega)).trans (by assumption))) | (exact (va_ne (by omega)).trans ((va_ne (by omega)).trans ((va_ne (by omega)).trans (by assumption)))) | rfl | (exact Or.inl rfl) | (exact Or.inr rfl) | omega | (exact Nat.le_of_ble_eq_true rfl) | decide | (exact ⟨by decide, rfl, by decide⟩)) (by first | assumption | (exact mL_get (by decide)) | (rw [mL_len]; decide) | (simp only [mL_set]; exact mL_get (by decide)) | (simp only [mL_set, mL_len]; decide) | (exact va_eq) | (exact (va_ne (by omega)).trans (by assumption)) | (exact (va_ne (by omega)).trans va_eq) | (exact (va_ne (by omega)).trans ((va_ne (by omega)).trans (by assumption))) | (exact (va_ne (by omega)).trans ((va_ne (by omega)).trans ((va_ne (by omega)).trans (by assumption)))) | rfl | (exact Or.inl rfl) | (exact Or.inr rfl) | omega | (exact Nat.le_of_ble_eq_true rfl) | decide | (exact ⟨by decide, rfl, by decide⟩)) (by first | assumption | (exact mL_get (by decide)) | (rw [mL_len]; decide) | (simp only [mL_set]; exact mL_get (by decide)) | (simp only [mL_set, mL_len]; decide) | (exact va_eq) | (exact (va_ne (by omega)).trans (by assumption)) | (exact (va_ne (by omega)).trans va_eq) | (exact (va_ne (by omega)).trans ((va_ne (by omega)).trans (by assumption))) | (exact (va_ne (by omega)).trans ((va_ne (by omega)).trans ((va_ne (by omega)).trans (by assumption)))) | rfl | (exact Or.inl rfl) | (exact Or.inr rfl) | omega | (exact Nat.le_of_ble_eq_true rfl) | decide | (exact ⟨by decide, rfl, by decide⟩)) (by first | assumption | (exact mL_get (by decide)) | (rw [mL_len]; decide) | (simp only [mL_set]; exact mL_get (by decide)) | (simp only [mL_set, mL_len]; decide) | (exact va_eq) | (exact (va_ne (by omega)).trans (by assumption)) | (exact (va_ne (by omega)).trans va_eq) | (exact (va_ne (by omega)).trans ((va_ne (by omega)).trans (by assumption))) | (exact (va_ne (by omega)).trans ((va_ne (by omega)).trans ((va_ne (by omega)).trans (by assumption)))) | rfl | (exact Or.inl rfl) | (exact Or.inr rfl) | omega | (exact Nat.le_of_ble_eq_true rfl) | decide | (exact ⟨by decide, rfl, by decide⟩)) (by first | assumption | (exact mL_get (by decide)) | (rw [mL_len]; decide) | (simp only [mL_set]; exact mL_get (by decide)) | (simp only [mL_set, mL_len]; decide) | (exact va_eq) | (exact (va_ne (by omega)).trans (by assumption)) | (exact (va_ne (by omega)).trans va_eq) | (exact (va_ne (by omega)).trans ((va_ne (by omega)).trans (by assumption))) | (exact (va_ne (by omega)).trans ((va_ne (by omega)).trans ((va_ne (by omega)).trans (by assumption)))) | rfl | (exact Or.inl rfl) | (exact Or.inr rfl) | omega | (exact Nat.le_of_ble_eq_true rfl) | decide | (exact ⟨by decide, rfl, by decide⟩)) ?_ ?_
  · intro z558
    refine b_163_576 _ _ _ ?_
    refine b_163_577 _ _ _ ?_
    exact K _ (mr_x22_er he)
  · intro z558
    first | (exact absurd z558 (by decide)) | (exact absurd (by decide) z558) | (exact absurd rfl z558) | (exact absurd z558 (of_nn (by omega))) | (exact absurd (of_np (by omega)) z558) | omega
theorem sq_dO (hn : 575 ≤ n) (hz : mr_st n s g L z σ k) (K : ∀ op, ms_op true σ.t.k = some op → mi_W (d + 1 + 1 + 1 + 1 + 1 + 1) 167 241 [some (.ref 505), some (.int (Int32.ofNat op)), o3, o4] [] (n, sl, z.f) Q) (K0 : ∀ z', ms_op true σ.t.k = none → mr_er n s z z' σ.t.a → Q (.inl (some (.int (-1)))) (n, sl, z'.f)) : mi_W (d + 1 + 1 + 1 + 1 + 1 + 1) 167 65 [some (.ref 505), o2, o3, o4] [] (n, sl, z.f) Q := by
  have q505 := hz.1.1
  have h9 := hz.2.2.1.2.2.2.2.1
  have ho := ms_opO (k := σ.t.k)
  refine b_167_65 _ _ _ (by first | assumption | (exact mL_get (by decide)) | (rw [mL_len]; decide) | (simp only [mL_set]; exact mL_get (by decide)) | (simp only [mL_set, mL_len]; decide) | (exact va_eq) | (exact (va_ne (by omega)).trans (by assumption)) | (exact (va_ne (by omega)).trans va_eq) | (exact (va_ne (by omega)).trans ((va_ne (by omega)).trans (by assumption))) | (exact (va_ne (by omega)).trans ((va_ne (by omega)).trans ((va_ne (by omega)).trans (by assumption)))) | rfl | (exact Or.inl rfl) | (exact Or.inr rfl) | omega | (exact Nat.le_of_ble_eq_true rfl) | decide | (exact ⟨by decide, rfl, by decide⟩)) (by first | assumption | (exact mL_get (by decide)) | (rw [mL_len]; decide) | (simp only [mL_set]; exact mL_get (by decide)) | (simp only [mL_set, mL_len]; decide) | (exact va_eq) | (exact (va_ne (by omega)).trans (by assumption)) | (exact (va_ne (by omega)).trans va_eq) | (exact (va_ne (by omega)).trans ((va_ne (by omega)).trans (by assumption))) | (exact (va_ne (by omega)).trans ((va_ne (by omega)).trans ((va_ne (by omega)).trans (by assumption)))) | rfl | (exact Or.inl rfl) | (exact Or.inr rfl) | omega | (exact Nat.le_of_ble_eq_true rfl) | decide | (exact ⟨by decide, rfl, by decide⟩)) ?_
  refine sq_key hn hz (by decide) (fun h => ?_) (fun h => ?_)
  · rw [if_pos h] at ho
    refine b_167_71 _ _ _ ?_ ?_
    · intro z71
      first | (exact absurd z71 (by decide)) | (exact absurd (by decide) z71) | (exact absurd rfl z71) | (exact absurd z71 (of_nn (by omega))) | (exact absurd (of_np (by omega)) z71) | omega
    · intro z71
      refine b_167_74 _ _ _ ?_
      refine b_167_225 _ _ _ ?_ ?_
      · intro z225
        exact K 22 ho
      · intro z225
        first | (exact absurd z225 (by decide)) | (exact absurd (by decide) z225) | (exact absurd rfl z225) | (exact absurd z225 (of_nn (by omega))) | (exact absurd (of_np (by omega)) z225) | omega
  · rw [if_neg h] at ho
    refine b_167_71 _ _ _ ?_ ?_
    · intro z71
      refine b_167_79 _ _ _ (by first | assumption | (exact mL_get (by decide)) | (rw [mL_len]; decide) | (simp only [mL_set]; exact mL_get (by decide)) | (simp only [mL_set, mL_len]; decide) | (exact va_eq) | (exact (va_ne (by omega)).trans (by assumption)) | (exact (va_ne (by omega)).trans va_eq) | (exact (va_ne (by omega)).trans ((va_ne (by omega)).trans (by assumption))) | (exact (va_ne (by omega)).trans ((va_ne (by omega)).trans ((va_ne (by omega)).trans (by assumption)))) | rfl | (exact Or.inl rfl) | (exact Or.inr rfl) | omega | (exact Nat.le_of_ble_eq_true rfl) | decide | (exact ⟨by decide, rfl, by decide⟩)) (by first | assumption | (exact mL_get (by decide)) | (rw [mL_len]; decide) | (simp only [mL_set]; exact mL_get (by decide)) | (simp only [mL_set, mL_len]; decide) | (exact va_eq) | (exact (va_ne (by omega)).trans (by assumption)) | (exact (va_ne (by omega)).trans va_eq) | (exact (va_ne (by omega)).trans ((va_ne (by omega)).trans (by assumption))) | (exact (va_ne (by omega)).trans ((va_ne (by omega)).trans ((va_ne (by omega)).trans (by assumption)))) | rfl | (exact Or.inl rfl) | (exact Or.inr rfl) | omega | (exact Nat.le_of_ble_eq_true rfl) | decide | (exact ⟨by decide, rfl, by decide⟩)) ?_
      refine sq_key hn hz (by decide) (fun h => ?_) (fun h => ?_)
      · rw [if_pos h] at ho
        refine b_167_85 _ _ _ ?_ ?_
        · intro z85
          first | (exact absurd z85 (by decide)) | (exact absurd (by decide) z85) | (exact absurd rfl z85) | (exact absurd z85 (of_nn (by omega))) | (exact absurd (of_np (by omega)) z85) | omega
        · intro z85
          refine b_167_88 _ _ _ ?_
          refine b_167_225 _ _ _ ?_ ?_
          · intro z225
            exact K 23 ho
          · intro z225
            first | (exact absurd z225 (by decide)) | (exact absurd (by decide) z225) | (exact absurd rfl z225) | (exact absurd z225 (of_nn (by omega))) | (exact absurd (of_np (by omega)) z225) | omega
      · rw [if_neg h] at ho
        refine b_167_85 _ _ _ ?_ ?_
        · intro z85
          refine b_167_93 _ _ _ (by first | assumption | (exact mL_get (by decide)) | (rw [mL_len]; decide) | (simp only [mL_set]; exact mL_get (by decide)) | (simp only [mL_set, mL_len]; decide) | (exact va_eq) | (exact (va_ne (by omega)).trans (by assumption)) | (exact (va_ne (by omega)).trans va_eq) | (exact (va_ne (by omega)).trans ((va_ne (by omega)).trans (by assumption))) | (exact (va_ne (by omega)).trans ((va_ne (by omega)).trans ((va_ne (by omega)).trans (by assumption)))) | rfl | (exact Or.inl rfl) | (exact Or.inr rfl) | omega | (exact Nat.le_of_ble_eq_true rfl) | decide | (exact ⟨by decide, rfl, by decide⟩)) (by first | assumption | (exact mL_get (by decide)) | (rw [mL_len]; decide) | (simp only [mL_set]; exact mL_get (by decide)) | (simp only [mL_set, mL_len]; decide) | (exact va_eq) | (exact (va_ne (by omega)).trans (by assumption)) | (exact (va_ne (by omega)).trans va_eq) | (exact (va_ne (by omega)).trans ((va_ne (by omega)).trans (by assumption))) | (exact (va_ne (by omega)).trans ((va_ne (by omega)).trans ((va_ne (by omega)).trans (by assumption)))) | rfl | (exact Or.inl rfl) | (exact Or.inr rfl) | omega | (exact Nat.le_of_ble_eq_true rfl) | decide | (exact ⟨by decide, rfl, by decide⟩)) ?_
          refine sq_key hn hz (by decide) (fun h => ?_) (fun h => ?_)
          · rw [if_pos h] at ho
            refine b_167_99 _ _ _ ?_ ?_
            · intro z99
              first | (exact absurd z99 (by decide)) | (exact absurd (by decide) z99) | (exact absurd rfl z99) | (exact absurd z99 (of_nn (by omega))) | (exact absurd (of_np (by omega)) z99) | omega
            · intro z99
              refine b_167_102 _ _ _ ?_
              refine b_167_225 _ _ _ ?_ ?_
              · intro z225
                exact K 24 ho
              · intro z225
                first | (exact absurd z225 (by decide)) | (exact absurd (by decide) z225) | (exact absurd rfl z225) | (exact absurd z225 (of_nn (by omega))) | (exact absurd (of_np (by omega)) z225) | omega
          · rw [if_neg h] at ho
            refine b_167_99 _ _ _ ?_ ?_
            · intro z99
              refine b_167_107 _ _ _ (by first | assumption | (exact mL_get (by decide)) | (rw [mL_len]; decide) | (simp only [mL_set]; exact mL_get (by decide)) | (simp only [mL_set, mL_len]; decide) | (exact va_eq) | (exact (va_ne (by omega)).trans (by assumption)) | (exact (va_ne (by omega)).trans va_eq) | (exact (va_ne (by omega)).trans ((va_ne (by omega)).trans (by assumption))) | (exact (va_ne (by omega)).trans ((va_ne (by omega)).trans ((va_ne (by omega)).trans (by assumption)))) | rfl | (exact Or.inl rfl) | (exact Or.inr rfl) | omega | (exact Nat.le_of_ble_eq_true rfl) | decide | (exact ⟨by decide, rfl, by decide⟩)) (by first | assumption | (exact mL_get (by decide)) | (rw [mL_len]; decide) | (simp only [mL_set]; exact mL_get (by decide)) | (simp only [mL_set, mL_len]; decide) | (exact va_eq) | (exact (va_ne (by omega)).trans (by assumption)) | (exact (va_ne (by omega)).trans va_eq) | (exact (va_ne (by omega)).trans ((va_ne (by omega)).trans (by assumption))) | (exact (va_ne (by omega)).trans ((va_ne (by omega)).trans ((va_ne (by omega)).trans (by assumption)))) | rfl | (exact Or.inl rfl) | (exact Or.inr rfl) | omega | (exact Nat.le_of_ble_eq_true rfl) | decide | (exact ⟨by decide, rfl, by decide⟩)) ?_
              refine sq_key hn hz (by decide) (fun h => ?_) (fun h => ?_)
              · rw [if_pos h] at ho
                refine b_167_113 _ _ _ ?_ ?_
                · intro z113
                  first | (exact absurd z113 (by decide)) | (exact absurd (by decide) z113) | (exact absurd rfl z113) | (exact absurd z113 (of_nn (by omega))) | (exact absurd (of_np (by omega)) z113) | omega
                · intro z113
                  refine b_167_116 _ _ _ ?_
                  refine b_167_225 _ _ _ ?_ ?_
                  · intro z225
                    exact K 25 ho
                  · intro z225
                    first | (exact absurd z225 (by decide)) | (exact absurd (by decide) z225) | (exact absurd rfl z225) | (exact absurd z225 (of_nn (by omega))) | (exact absurd (of_np (by omega)) z225) | omega
              · rw [if_neg h] at ho
                refine b_167_113 _ _ _ ?_ ?_
                · intro z113
                  refine b_167_121 _ _ _ (by first | assumption | (exact mL_get (by decide)) | (rw [mL_len]; decide) | (simp only [mL_set]; exact mL_get (by decide)) | (simp only [mL_set, mL_len]; decide) | (exact va_eq) | (exact (va_ne (by omega)).trans (by assumption)) | (exact (va_ne (by omega)).trans va_eq) | (exact (va_ne (by omega)).trans ((va_ne (by omega)).trans (by assumption))) | (exact (va_ne (by omega)).trans ((va_ne (by omega)).trans ((va_ne (by omega)).trans (by assumption)))) | rfl | (exact Or.inl rfl) | (exact Or.inr rfl) | omega | (exact Nat.le_of_ble_eq_true rfl) | decide | (exact ⟨by decide, rfl, by decide⟩)) (by first | assumption | (exact mL_get (by decide)) | (rw [mL_len]; decide) | (simp only [mL_set]; exact mL_get (by decide)) | (simp only [mL_set, mL_len]; decide) | (exact va_eq) | (exact (va_ne (by omega)).trans (by assumption)) | (exact (va_ne (by omega)).trans va_eq) | (exact (va_ne (by omega)).trans ((va_ne (by omega)).trans (by assumption))) | (exact (va_ne (by omega)).trans ((va_ne (by omega)).trans ((va_ne (by omega)).trans (by assumption)))) | rfl | (exact Or.inl rfl) | (exact Or.inr rfl) | omega | (exact Nat.le_of_ble_eq_true rfl) | decide | (exact ⟨by decide, rfl, by decide⟩)) ?_
                  refine sq_key hn hz (by decide) (fun h => ?_) (fun h => ?_)
                  · rw [if_pos h] at ho
                    refine b_167_127 _ _ _ ?_ ?_
                    · intro z127
                      first | (exact absurd z127 (by decide)) | (exact absurd (by decide) z127) | (exact absurd rfl z127) | (exact absurd z127 (of_nn (by omega))) | (exact absurd (of_np (by omega)) z127) | omega
                    · intro z127
                      refine b_167_130 _ _ _ ?_
                      refine b_167_225 _ _ _ ?_ ?_
                      · intro z225
                        exact K 26 ho
                      · intro z225
                        first | (exact absurd z225 (by decide)) | (exact absurd (by decide) z225) | (exact absurd rfl z225) | (exact absurd z225 (of_nn (by omega))) | (exact absurd (of_np (by omega)) z225) | omega
                  · rw [if_neg h] at ho
                    refine b_167_127 _ _ _ ?_ ?_
                    · intro z127
                      refine b_167_135 _ _ _ (by first | assumption | (exact mL_get (by decide)) | (rw [mL_len]; decide) | (simp only [mL_set]; exact mL_get (by decide)) | (simp only [mL_set, mL_len]; decide) | (exact va_eq) | (exact (va_ne (by omega)).trans (by assumption)) | (exact (va_ne (by omega)).trans va_eq) | (exact (va_ne (by omega)).trans ((va_ne (by omega)).trans (by assumption))) | (exact (va_ne (by omega)).trans ((va_ne (by omega)).trans ((va_ne (by omega)).trans (by assumption)))) | rfl | (exact Or.inl rfl) | (exact Or.inr rfl) | omega | (exact Nat.le_of_ble_eq_true rfl) | decide | (exact ⟨by decide, rfl, by decide⟩)) (by first | assumption | (exact mL_get (by decide)) | (rw [mL_len]; decide) | (simp only [mL_set]; exact mL_get (by decide)) | (simp only [mL_set, mL_len]; decide) | (exact va_eq) | (exact (va_ne (by omega)).trans (by assumption)) | (exact (va_ne (by omega)).trans va_eq) | (exact (va_ne (by omega)).trans ((va_ne (by omega)).trans (by assumption))) | (exact (va_ne (by omega)).trans ((va_ne (by omega)).trans ((va_ne (by omega)).trans (by assumption)))) | rfl | (exact Or.inl rfl) | (exact Or.inr rfl) | omega | (exact Nat.le_of_ble_eq_true rfl) | decide | (exact ⟨by decide, rfl, by decide⟩)) ?_
                      refine sq_key hn hz (by decide) (fun h => ?_) (fun h => ?_)
                      · rw [if_pos h] at ho
                        refine b_167_141 _ _ _ ?_ ?_
                        · intro z141
                          first | (exact absurd z141 (by decide)) | (exact absurd (by decide) z141) | (exact absurd rfl z141) | (exact absurd z141 (of_nn (by omega))) | (exact absurd (of_np (by omega)) z141) | omega
                        · intro z141
                          refine b_167_144 _ _ _ ?_
                          refine b_167_225 _ _ _ ?_ ?_
                          · intro z225
                            exact K 27 ho
                          · intro z225
                            first | (exact absurd z225 (by decide)) | (exact absurd (by decide) z225) | (exact absurd rfl z225) | (exact absurd z225 (of_nn (by omega))) | (exact absurd (of_np (by omega)) z225) | omega
                      · rw [if_neg h] at ho
                        refine b_167_141 _ _ _ ?_ ?_
                        · intro z141
                          refine b_167_149 _ _ _ (by first | assumption | (exact mL_get (by decide)) | (rw [mL_len]; decide) | (simp only [mL_set]; exact mL_get (by decide)) | (simp only [mL_set, mL_len]; decide) | (exact va_eq) | (exact (va_ne (by omega)).trans (by assumption)) | (exact (va_ne (by omega)).trans va_eq) | (exact (va_ne (by omega)).trans ((va_ne (by omega)).trans (by assumption))) | (exact (va_ne (by omega)).trans ((va_ne (by omega)).trans ((va_ne (by omega)).trans (by assumption)))) | rfl | (exact Or.inl rfl) | (exact Or.inr rfl) | omega | (exact Nat.le_of_ble_eq_true rfl) | decide | (exact ⟨by decide, rfl, by decide⟩)) (by first | assumption | (exact mL_get (by decide)) | (rw [mL_len]; decide) | (simp only [mL_set]; exact mL_get (by decide)) | (simp only [mL_set, mL_len]; decide) | (exact va_eq) | (exact (va_ne (by omega)).trans (by assumption)) | (exact (va_ne (by omega)).trans va_eq) | (exact (va_ne (by omega)).trans ((va_ne (by omega)).trans (by assumption))) | (exact (va_ne (by omega)).trans ((va_ne (by omega)).trans ((va_ne (by omega)).trans (by assumption)))) | rfl | (exact Or.inl rfl) | (exact Or.inr rfl) | omega | (exact Nat.le_of_ble_eq_true rfl) | decide | (exact ⟨by decide, rfl, by decide⟩)) ?_
                          refine sq_sign hn hz (by decide) (fun h => ?_) (fun h => ?_)
                          · rw [if_pos h] at ho
                            refine b_167_156 _ _ _ ?_ ?_
                            · intro z156
                              first | (exact absurd z156 (by decide)) | (exact absurd (by decide) z156) | (exact absurd rfl z156) | (exact absurd z156 (of_nn (by omega))) | (exact absurd (of_np (by omega)) z156) | omega
                            · intro z156
                              refine b_167_159 _ _ _ ?_
                              refine b_167_225 _ _ _ ?_ ?_
                              · intro z225
                                exact K 28 ho
                              · intro z225
                                first | (exact absurd z225 (by decide)) | (exact absurd (by decide) z225) | (exact absurd rfl z225) | (exact absurd z225 (of_nn (by omega))) | (exact absurd (of_np (by omega)) z225) | omega
                          · rw [if_neg h] at ho
                            refine b_167_156 _ _ _ ?_ ?_
                            · intro z156
                              refine b_167_164 _ _ _ (by first | assumption | (exact mL_get (by decide)) | (rw [mL_len]; decide) | (simp only [mL_set]; exact mL_get (by decide)) | (simp only [mL_set, mL_len]; decide) | (exact va_eq) | (exact (va_ne (by omega)).trans (by assumption)) | (exact (va_ne (by omega)).trans va_eq) | (exact (va_ne (by omega)).trans ((va_ne (by omega)).trans (by assumption))) | (exact (va_ne (by omega)).trans ((va_ne (by omega)).trans ((va_ne (by omega)).trans (by assumption)))) | rfl | (exact Or.inl rfl) | (exact Or.inr rfl) | omega | (exact Nat.le_of_ble_eq_true rfl) | decide | (exact ⟨by decide, rfl, by decide⟩)) (by first | assumption | (exact mL_get (by decide)) | (rw [mL_len]; decide) | (simp only [mL_set]; exact mL_get (by decide)) | (simp only [mL_set, mL_len]; decide) | (exact va_eq) | (exact (va_ne (by omega)).trans (by assumption)) | (exact (va_ne (by omega)).trans va_eq) | (exact (va_ne (by omega)).trans ((va_ne (by omega)).trans (by assumption))) | (exact (va_ne (by omega)).trans ((va_ne (by omega)).trans ((va_ne (by omega)).trans (by assumption)))) | rfl | (exact Or.inl rfl) | (exact Or.inr rfl) | omega | (exact Nat.le_of_ble_eq_true rfl) | decide | (exact ⟨by decide, rfl, by decide⟩)) ?_
                              refine sq_sign hn hz (by decide) (fun h => ?_) (fun h => ?_)
                              · rw [if_pos h] at ho
                                refine b_167_171 _ _ _ ?_ ?_
                                · intro z171
                                  first | (exact absurd z171 (by decide)) | (exact absurd (by decide) z171) | (exact absurd rfl z171) | (exact absurd z171 (of_nn (by omega))) | (exact absurd (of_np (by omega)) z171) | omega
                                · intro z171
                                  refine b_167_174 _ _ _ ?_
                                  refine b_167_225 _ _ _ ?_ ?_
                                  · intro z225
                                    exact K 29 ho
                                  · intro z225
                                    first | (exact absurd z225 (by decide)) | (exact absurd (by decide) z225) | (exact absurd rfl z225) | (exact absurd z225 (of_nn (by omega))) | (exact absurd (of_np (by omega)) z225) | omega
                              · rw [if_neg h] at ho
                                refine b_167_171 _ _ _ ?_ ?_
                                · intro z171
                                  refine b_167_179 _ _ _ (by first | assumption | (exact mL_get (by decide)) | (rw [mL_len]; decide) | (simp only [mL_set]; exact mL_get (by decide)) | (simp only [mL_set, mL_len]; decide) | (exact va_eq) | (exact (va_ne (by omega)).trans (by assumption)) | (exact (va_ne (by omega)).trans va_eq) | (exact (va_ne (by omega)).trans ((va_ne (by omega)).trans (by assumption))) | (exact (va_ne (by omega)).trans ((va_ne (by omega)).trans ((va_ne (by omega)).trans (by assumption)))) | rfl | (exact Or.inl rfl) | (exact Or.inr rfl) | omega | (exact Nat.le_of_ble_eq_true rfl) | decide | (exact ⟨by decide, rfl, by decide⟩)) (by first | assumption | (exact mL_get (by decide)) | (rw [mL_len]; decide) | (simp only [mL_set]; exact mL_get (by decide)) | (simp only [mL_set, mL_len]; decide) | (exact va_eq) | (exact (va_ne (by omega)).trans (by assumption)) | (exact (va_ne (by omega)).trans va_eq) | (exact (va_ne (by omega)).trans ((va_ne (by omega)).trans (by assumption))) | (exact (va_ne (by omega)).trans ((va_ne (by omega)).trans ((va_ne (by omega)).trans (by assumption)))) | rfl | (exact Or.inl rfl) | (exact Or.inr rfl) | omega | (exact Nat.le_of_ble_eq_true rfl) | decide | (exact ⟨by decide, rfl, by decide⟩)) ?_
                                  refine sq_sign hn hz (by decide) (fun h => ?_) (fun h => ?_)
                                  · rw [if_pos h] at ho
                                    refine b_167_186 _ _ _ ?_ ?_
                                    · intro z186
                                      first | (exact absurd z186 (by decide)) | (exact absurd (by decide) z186) | (exact absurd rfl z186) | (exact absurd z186 (of_nn (by omega))) | (exact absurd (of_np (by omega)) z186) | omega
                                    · intro z186
                                      refine b_167_189 _ _ _ ?_
                                      refine b_167_225 _ _ _ ?_ ?_
                                      · intro z225
                                        exact K 30 ho
                                      · intro z225
                                        first | (exact absurd z225 (by decide)) | (exact absurd (by decide) z225) | (exact absurd rfl z225) | (exact absurd z225 (of_nn (by omega))) | (exact absurd (of_np (by omega)) z225) | omega
                                  · rw [if_neg h] at ho
                                    refine b_167_186 _ _ _ ?_ ?_
                                    · intro z186
                                      refine b_167_194 _ _ _ (by first | assumption | (exact mL_get (by decide)) | (rw [mL_len]; decide) | (simp only [mL_set]; exact mL_get (by decide)) | (simp only [mL_set, mL_len]; decide) | (exact va_eq) | (exact (va_ne (by omega)).trans (by assumption)) | (exact (va_ne (by omega)).trans va_eq) | (exact (va_ne (by omega)).trans ((va_ne (by omega)).trans (by assumption))) | (exact (va_ne (by omega)).trans ((va_ne (by omega)).trans ((va_ne (by omega)).trans (by assumption)))) | rfl | (exact Or.inl rfl) | (exact Or.inr rfl) | omega | (exact Nat.le_of_ble_eq_true rfl) | decide | (exact ⟨by decide, rfl, by decide⟩)) (by first | assumption | (exact mL_get (by decide)) | (rw [mL_len]; decide) | (simp only [mL_set]; exact mL_get (by decide)) | (simp only [mL_set, mL_len]; decide) | (exact va_eq) | (exact (va_ne (by omega)).trans (by assumption)) | (exact (va_ne (by omega)).trans va_eq) | (exact (va_ne (by omega)).trans ((va_ne (by omega)).trans (by assumption))) | (exact (va_ne (by omega)).trans ((va_ne (by omega)).trans ((va_ne (by omega)).trans (by assumption)))) | rfl | (exact Or.inl rfl) | (exact Or.inr rfl) | omega | (exact Nat.le_of_ble_eq_true rfl) | decide | (exact ⟨by decide, rfl, by decide⟩)) ?_
                                      refine sq_sign hn hz (by decide) (fun h => ?_) (fun h => ?_)
                                      · rw [if_pos h] at ho
                                        refine b_167_201 _ _ _ ?_ ?_
                                        · intro z201
                                          first | (exact absurd z201 (by decide)) | (exact absurd (by decide) z201) | (exact absurd rfl z201) | (exact absurd z201 (of_nn (by omega))) | (exact absurd (of_np (by omega)) z201) | omega
                                        · intro z201
                                          refine b_167_204 _ _ _ ?_
                                          refine b_167_225 _ _ _ ?_ ?_
                                          · intro z225
                                            exact K 31 ho
                                          · intro z225
                                            first | (exact absurd z225 (by decide)) | (exact absurd (by decide) z225) | (exact absurd rfl z225) | (exact absurd z225 (of_nn (by omega))) | (exact absurd (of_np (by omega)) z225) | omega
                                      · rw [if_neg h] at ho
                                        refine b_167_201 _ _ _ ?_ ?_
                                        · intro z201
                                          refine b_167_209 _ _ _ (by first | assumption | (exact mL_get (by decide)) | (rw [mL_len]; decide) | (simp only [mL_set]; exact mL_get (by decide)) | (simp only [mL_set, mL_len]; decide) | (exact va_eq) | (exact (va_ne (by omega)).trans (by assumption)) | (exact (va_ne (by omega)).trans va_eq) | (exact (va_ne (by omega)).trans ((va_ne (by omega)).trans (by assumption))) | (exact (va_ne (by omega)).trans ((va_ne (by omega)).trans ((va_ne (by omega)).trans (by assumption)))) | rfl | (exact Or.inl rfl) | (exact Or.inr rfl) | omega | (exact Nat.le_of_ble_eq_true rfl) | decide | (exact ⟨by decide, rfl, by decide⟩)) (by first | assumption | (exact mL_get (by decide)) | (rw [mL_len]; decide) | (simp only [mL_set]; exact mL_get (by decide)) | (simp only [mL_set, mL_len]; decide) | (exact va_eq) | (exact (va_ne (by omega)).trans (by assumption)) | (exact (va_ne (by omega)).trans va_eq) | (exact (va_ne (by omega)).trans ((va_ne (by omega)).trans (by assumption))) | (exact (va_ne (by omega)).trans ((va_ne (by omega)).trans ((va_ne (by omega)).trans (by assumption)))) | rfl | (exact Or.inl rfl) | (exact Or.inr rfl) | omega | (exact Nat.le_of_ble_eq_true rfl) | decide | (exact ⟨by decide, rfl, by decide⟩)) ?_
                                          refine sq_sign hn hz (by decide) (fun h => ?_) (fun h => ?_)
                                          · rw [if_pos h] at ho
                                            refine b_167_216 _ _ _ ?_ ?_
                                            · intro z216
                                              first | (exact absurd z216 (by decide)) | (exact absurd (by decide) z216) | (exact absurd rfl z216) | (exact absurd z216 (of_nn (by omega))) | (exact absurd (of_np (by omega)) z216) | omega
                                            · intro z216
                                              refine b_167_219 _ _ _ ?_
                                              refine b_167_225 _ _ _ ?_ ?_
                                              · intro z225
                                                exact K 32 ho
                                              · intro z225
                                                first | (exact absurd z225 (by decide)) | (exact absurd (by decide) z225) | (exact absurd rfl z225) | (exact absurd z225 (of_nn (by omega))) | (exact absurd (of_np (by omega)) z225) | omega
                                          · rw [if_neg h] at ho
                                            refine b_167_216 _ _ _ ?_ ?_
                                            · intro z216
                                              refine b_167_224 _ _ _ ?_
                                              refine b_167_225 _ _ _ ?_ ?_
                                              · intro z225
                                                first | (exact absurd z225 (by decide)) | (exact absurd (by decide) z225) | (exact absurd rfl z225) | (exact absurd z225 (of_nn (by omega))) | (exact absurd (of_np (by omega)) z225) | omega
                                              · intro z225
                                                refine b_167_230 _ _ _ (by first | assumption | (exact mL_get (by decide)) | (rw [mL_len]; decide) | (simp only [mL_set]; exact mL_get (by decide)) | (simp only [mL_set, mL_len]; decide) | (exact va_eq) | (exact (va_ne (by omega)).trans (by assumption)) | (exact (va_ne (by omega)).trans va_eq) | (exact (va_ne (by omega)).trans ((va_ne (by omega)).trans (by assumption))) | (exact (va_ne (by omega)).trans ((va_ne (by omega)).trans ((va_ne (by omega)).trans (by assumption)))) | rfl | (exact Or.inl rfl) | (exact Or.inr rfl) | omega | (exact Nat.le_of_ble_eq_true rfl) | decide | (exact ⟨by decide, rfl, by decide⟩)) (by first | assumption | (exact mL_get (by decide)) | (rw [mL_len]; decide) | (simp only [mL_set]; exact mL_get (by decide)) | (simp only [mL_set, mL_len]; decide) | (exact va_eq) | (exact (va_ne (by omega)).trans (by assumption)) | (exact (va_ne (by omega)).trans va_eq) | (exact (va_ne (by omega)).trans ((va_ne (by omega)).trans (by assumption))) | (exact (va_ne (by omega)).trans ((va_ne (by omega)).trans ((va_ne (by omega)).trans (by assumption)))) | rfl | (exact Or.inl rfl) | (exact Or.inr rfl) | omega | (exact Nat.le_of_ble_eq_true rfl) | decide | (exact ⟨by decide, rfl, by decide⟩)) (by first | assumption | (exact mL_get (by decide)) | (rw [mL_len]; decide) | (simp only [mL_set]; exact mL_get (by decide)) | (simp only [mL_set, mL_len]; decide) | (exact va_eq) | (exact (va_ne (by omega)).trans (by assumption)) | (exact (va_ne (by omega)).trans va_eq) | (exact (va_ne (by omega)).trans ((va_ne (by omega)).trans (by assumption))) | (exact (va_ne (by omega)).trans ((va_ne (by omega)).trans ((va_ne (by omega)).trans (by assumption)))) | rfl | (exact Or.inl rfl) | (exact Or.inr rfl) | omega | (exact Nat.le_of_ble_eq_true rfl) | decide | (exact ⟨by decide, rfl, by decide⟩)) (by first | assumption | (exact mL_get (by decide)) | (rw [mL_len]; decide) | (simp only [mL_set]; exact mL_get (by decide)) | (simp only [mL_set, mL_len]; decide) | (exact va_eq) | (exact (va_ne (by omega)).trans (by assumption)) | (exact (va_ne (by omega)).trans va_eq) | (exact (va_ne (by omega)).trans ((va_ne (by omega)).trans (by assumption))) | (exact (va_ne (by omega)).trans ((va_ne (by omega)).trans ((va_ne (by omega)).trans (by assumption)))) | rfl | (exact Or.inl rfl) | (exact Or.inr rfl) | omega | (exact Nat.le_of_ble_eq_true rfl) | decide | (exact ⟨by decide, rfl, by decide⟩)) (by first | assumption | (exact mL_get (by decide)) | (rw [mL_len]; decide) | (simp only [mL_set]; exact mL_get (by decide)) | (simp only [mL_set, mL_len]; decide) | (exact va_eq) | (exact (va_ne (by omega)).trans (by assumption)) | (exact (va_ne (by omega)).trans va_eq) | (exact (va_ne (by omega)).trans ((va_ne (by omega)).trans (by assumption))) | (exact (va_ne (by omega)).trans ((va_ne (by omega)).trans ((va_ne (by omega)).trans (by assumption)))) | rfl | (exact Or.inl rfl) | (exact Or.inr rfl) | omega | (exact Nat.le_of_ble_eq_true rfl) | decide | (exact ⟨by decide, rfl, by decide⟩)) ?_
                                                rw [h9]
                                                refine sq_bad hn hz (fun z' a1 => ?_)
                                                refine b_167_238 _ _ _ ?_
                                                exact K0 z' ho a1
                                            · intro z216
                                              first | (exact absurd z216 (by decide)) | (exact absurd (by decide) z216) | (exact absurd rfl z216) | (exact absurd z216 (of_nn (by omega))) | (exact absurd (of_np (by omega)) z216) | omega
                                        · intro z201
                                          first | (exact absurd z201 (by decide)) | (exact absurd (by decide) z201) | (exact absurd rfl z201) | (exact absurd z201 (of_nn (by omega))) | (exact absurd (of_np (by omega)) z201) | omega
                                    · intro z186
                                      first | (exact absurd z186 (by decide)) | (exact absurd (by decide) z186) | (exact absurd rfl z186) | (exact absurd z186 (of_nn (by omega))) | (exact absurd (of_np (by omega)) z186) | omega
                                · intro z171
                                  first | (exact absurd z171 (by decide)) | (exact absurd (by decide) z171) | (exact absurd rfl z171) | (exact absurd z171 (of_nn (by omega))) | (exact absurd (of_np (by omega)) z171) | omega
                            · intro z156
                              first | (exact absurd z156 (by decide)) | (exact absurd (by decide) z156) | (exact absurd rfl z156) | (exact absurd z156 (of_nn (by omega))) | (exact absurd (of_np (by omega)) z156) | omega
                        · intro z141
                          first | (exact absurd z141 (by decide)) | (exact absurd (by decide) z141) | (exact absurd rfl z141) | (exact absurd z141 (of_nn (by omega))) | (exact absurd (of_np (by omega)) z141) | omega
                    · intro z127
                      first | (exact absurd z127 (by decide)) | (exact absurd (by decide) z127) | (exact absurd rfl z127) | (exact absurd z127 (of_nn (by omega))) | (exact absurd (of_np (by omega)) z127) | omega
                · intro z113
                  first | (exact absurd z113 (by decide)) | (exact absurd (by decide) z113) | (exact absurd rfl z113) | (exact absurd z113 (of_nn (by omega))) | (exact absurd (of_np (by omega)) z113) | omega
            · intro z99
              first | (exact absurd z99 (by decide)) | (exact absurd (by decide) z99) | (exact absurd rfl z99) | (exact absurd z99 (of_nn (by omega))) | (exact absurd (of_np (by omega)) z99) | omega
        · intro z85
          first | (exact absurd z85 (by decide)) | (exact absurd (by decide) z85) | (exact absurd rfl z85) | (exact absurd z85 (of_nn (by omega))) | (exact absurd (of_np (by omega)) z85) | omega
    · intro z71
      first | (exact absurd z71 (by decide)) | (exact absurd (by decide) z71) | (exact absurd rfl z71) | (exact absurd z71 (of_nn (by omega))) | (exact absurd (of_np (by omega)) z71) | omega
theorem sq_fO (hn : 575 ≤ n) (hz : mr_st n s g L z σ k) (hk : k < 100) (K : mr_st n s g L (mr_x22 (z.X 22 - 1) z s) σ (k + 1) → Q (.inl (some (.int (Int32.ofNat m)))) (n, sl, (mr_x22 (z.X 22 - 1) z s).f)) : mi_W d 167 436 [some (.ref 505), some (.int (Int32.ofNat op)), some (.int (Int32.ofNat m)), some (.int 1)] [] (n, sl, z.f) Q := by
  have q505 := hz.1.1
  have h22 : z.X 22 = _ := hz.2.2.2.2.2.1.1
  have hst := mr_x22_st (v := z.X 22 - 1) (j := k + 1) hz (by rw [h22, show (1 : Int32) = Int32.ofNat 1 from rfl, of_sub' (by omega), show 100 - k - 1 = 100 - (k + 1) by omega]) (by omega)
  refine b_167_436 _ _ _ (by first | assumption | (exact mL_get (by decide)) | (rw [mL_len]; decide) | (simp only [mL_set]; exact mL_get (by decide)) | (simp only [mL_set, mL_len]; decide) | (exact va_eq) | (exact (va_ne (by omega)).trans (by assumption)) | (exact (va_ne (by omega)).trans va_eq) | (exact (va_ne (by omega)).trans ((va_ne (by omega)).trans (by assumption))) | (exact (va_ne (by omega)).trans ((va_ne (by omega)).trans ((va_ne (by omega)).trans (by assumption)))) | rfl | (exact Or.inl rfl) | (exact Or.inr rfl) | omega | (exact Nat.le_of_ble_eq_true rfl) | decide | (exact ⟨by decide, rfl, by decide⟩)) (by first | assumption | (exact mL_get (by decide)) | (rw [mL_len]; decide) | (simp only [mL_set]; exact mL_get (by decide)) | (simp only [mL_set, mL_len]; decide) | (exact va_eq) | (exact (va_ne (by omega)).trans (by assumption)) | (exact (va_ne (by omega)).trans va_eq) | (exact (va_ne (by omega)).trans ((va_ne (by omega)).trans (by assumption))) | (exact (va_ne (by omega)).trans ((va_ne (by omega)).trans ((va_ne (by omega)).trans (by assumption)))) | rfl | (exact Or.inl rfl) | (exact Or.inr rfl) | omega | (exact Nat.le_of_ble_eq_true rfl) | decide | (exact ⟨by decide, rfl, by decide⟩)) (by first | assumption | (exact mL_get (by decide)) | (rw [mL_len]; decide) | (simp only [mL_set]; exact mL_get (by decide)) | (simp only [mL_set, mL_len]; decide) | (exact va_eq) | (exact (va_ne (by omega)).trans (by assumption)) | (exact (va_ne (by omega)).trans va_eq) | (exact (va_ne (by omega)).trans ((va_ne (by omega)).trans (by assumption))) | (exact (va_ne (by omega)).trans ((va_ne (by omega)).trans ((va_ne (by omega)).trans (by assumption)))) | rfl | (exact Or.inl rfl) | (exact Or.inr rfl) | omega | (exact Nat.le_of_ble_eq_true rfl) | decide | (exact ⟨by decide, rfl, by decide⟩)) (by first | assumption | (exact mL_get (by decide)) | (rw [mL_len]; decide) | (simp only [mL_set]; exact mL_get (by decide)) | (simp only [mL_set, mL_len]; decide) | (exact va_eq) | (exact (va_ne (by omega)).trans (by assumption)) | (exact (va_ne (by omega)).trans va_eq) | (exact (va_ne (by omega)).trans ((va_ne (by omega)).trans (by assumption))) | (exact (va_ne (by omega)).trans ((va_ne (by omega)).trans ((va_ne (by omega)).trans (by assumption)))) | rfl | (exact Or.inl rfl) | (exact Or.inr rfl) | omega | (exact Nat.le_of_ble_eq_true rfl) | decide | (exact ⟨by decide, rfl, by decide⟩)) (by first | assumption | (exact mL_get (by decide)) | (rw [mL_len]; decide) | (simp only [mL_set]; exact mL_get (by decide)) | (simp only [mL_set, mL_len]; decide) | (exact va_eq) | (exact (va_ne (by omega)).trans (by assumption)) | (exact (va_ne (by omega)).trans va_eq) | (exact (va_ne (by omega)).trans ((va_ne (by omega)).trans (by assumption))) | (exact (va_ne (by omega)).trans ((va_ne (by omega)).trans ((va_ne (by omega)).trans (by assumption)))) | rfl | (exact Or.inl rfl) | (exact Or.inr rfl) | omega | (exact Nat.le_of_ble_eq_true rfl) | decide | (exact ⟨by decide, rfl, by decide⟩)) (by first | assumption | (exact mL_get (by decide)) | (rw [mL_len]; decide) | (simp only [mL_set]; exact mL_get (by decide)) | (simp only [mL_set, mL_len]; decide) | (exact va_eq) | (exact (va_ne (by omega)).trans (by assumption)) | (exact (va_ne (by omega)).trans va_eq) | (exact (va_ne (by omega)).trans ((va_ne (by omega)).trans (by assumption))) | (exact (va_ne (by omega)).trans ((va_ne (by omega)).trans ((va_ne (by omega)).trans (by assumption)))) | rfl | (exact Or.inl rfl) | (exact Or.inr rfl) | omega | (exact Nat.le_of_ble_eq_true rfl) | decide | (exact ⟨by decide, rfl, by decide⟩)) ?_ ?_
  · intro z436
    first | (exact absurd z436 (by decide)) | (exact absurd (by decide) z436) | (exact absurd rfl z436) | (exact absurd z436 (of_nn (by omega))) | (exact absurd (of_np (by omega)) z436) | omega
  · intro z436
    refine b_167_450 _ _ _ ?_
    refine b_167_455 _ _ _ ?_
    exact K hst
theorem sq_gO {w : Nat} (hn : 575 ≤ n) (he : mr_er n s z0 z w) (K : ∀ z', mr_er n s z0 z' w → Q (.inl (some (.int (-1)))) (n, sl, z'.f)) {l2 l3 : Int32} : mi_W d 167 436 [some (.ref 505), some (.int l2), some (.int l3), some (.int 0)] [] (n, sl, z.f) Q := by
  have q505 := he.1.1
  refine b_167_436 _ _ _ (by first | assumption | (exact mL_get (by decide)) | (rw [mL_len]; decide) | (simp only [mL_set]; exact mL_get (by decide)) | (simp only [mL_set, mL_len]; decide) | (exact va_eq) | (exact (va_ne (by omega)).trans (by assumption)) | (exact (va_ne (by omega)).trans va_eq) | (exact (va_ne (by omega)).trans ((va_ne (by omega)).trans (by assumption))) | (exact (va_ne (by omega)).trans ((va_ne (by omega)).trans ((va_ne (by omega)).trans (by assumption)))) | rfl | (exact Or.inl rfl) | (exact Or.inr rfl) | omega | (exact Nat.le_of_ble_eq_true rfl) | decide | (exact ⟨by decide, rfl, by decide⟩)) (by first | assumption | (exact mL_get (by decide)) | (rw [mL_len]; decide) | (simp only [mL_set]; exact mL_get (by decide)) | (simp only [mL_set, mL_len]; decide) | (exact va_eq) | (exact (va_ne (by omega)).trans (by assumption)) | (exact (va_ne (by omega)).trans va_eq) | (exact (va_ne (by omega)).trans ((va_ne (by omega)).trans (by assumption))) | (exact (va_ne (by omega)).trans ((va_ne (by omega)).trans ((va_ne (by omega)).trans (by assumption)))) | rfl | (exact Or.inl rfl) | (exact Or.inr rfl) | omega | (exact Nat.le_of_ble_eq_true rfl) | decide | (exact ⟨by decide, rfl, by decide⟩)) (by first | assumption | (exact mL_get (by decide)) | (rw [mL_len]; decide) | (simp only [mL_set]; exact mL_get (by decide)) | (simp only [mL_set, mL_len]; decide) | (exact va_eq) | (exact (va_ne (by omega)).trans (by assumption)) | (exact (va_ne (by omega)).trans va_eq) | (exact (va_ne (by omega)).trans ((va_ne (by omega)).trans (by assumption))) | (exact (va_ne (by omega)).trans ((va_ne (by omega)).trans ((va_ne (by omega)).trans (by assumption)))) | rfl | (exact Or.inl rfl) | (exact Or.inr rfl) | omega | (exact Nat.le_of_ble_eq_true rfl) | decide | (exact ⟨by decide, rfl, by decide⟩)) (by first | assumption | (exact mL_get (by decide)) | (rw [mL_len]; decide) | (simp only [mL_set]; exact mL_get (by decide)) | (simp only [mL_set, mL_len]; decide) | (exact va_eq) | (exact (va_ne (by omega)).trans (by assumption)) | (exact (va_ne (by omega)).trans va_eq) | (exact (va_ne (by omega)).trans ((va_ne (by omega)).trans (by assumption))) | (exact (va_ne (by omega)).trans ((va_ne (by omega)).trans ((va_ne (by omega)).trans (by assumption)))) | rfl | (exact Or.inl rfl) | (exact Or.inr rfl) | omega | (exact Nat.le_of_ble_eq_true rfl) | decide | (exact ⟨by decide, rfl, by decide⟩)) (by first | assumption | (exact mL_get (by decide)) | (rw [mL_len]; decide) | (simp only [mL_set]; exact mL_get (by decide)) | (simp only [mL_set, mL_len]; decide) | (exact va_eq) | (exact (va_ne (by omega)).trans (by assumption)) | (exact (va_ne (by omega)).trans va_eq) | (exact (va_ne (by omega)).trans ((va_ne (by omega)).trans (by assumption))) | (exact (va_ne (by omega)).trans ((va_ne (by omega)).trans ((va_ne (by omega)).trans (by assumption)))) | rfl | (exact Or.inl rfl) | (exact Or.inr rfl) | omega | (exact Nat.le_of_ble_eq_true rfl) | decide | (exact ⟨by decide, rfl, by decide⟩)) (by first | assumption | (exact mL_get (by decide)) | (rw [mL_len]; decide) | (simp only [mL_set]; exact mL_get (by decide)) | (simp only [mL_set, mL_len]; decide) | (exact va_eq) | (exact (va_ne (by omega)).trans (by assumption)) | (exact (va_ne (by omega)).trans va_eq) | (exact (va_ne (by omega)).trans ((va_ne (by omega)).trans (by assumption))) | (exact (va_ne (by omega)).trans ((va_ne (by omega)).trans ((va_ne (by omega)).trans (by assumption)))) | rfl | (exact Or.inl rfl) | (exact Or.inr rfl) | omega | (exact Nat.le_of_ble_eq_true rfl) | decide | (exact ⟨by decide, rfl, by decide⟩)) ?_ ?_
  · intro z436
    refine b_167_454 _ _ _ ?_
    refine b_167_455 _ _ _ ?_
    exact K _ (mr_x22_er he)
  · intro z436
    first | (exact absurd z436 (by decide)) | (exact absurd (by decide) z436) | (exact absurd rfl z436) | (exact absurd z436 (of_nn (by omega))) | (exact absurd (of_np (by omega)) z436) | omega
end
