/-! the law: behind the second object's call -/
section
variable {d n sl i : Nat} {f0 : Nat → mi_C} {b : mg_A} {Q : (Option Value ⊕ Nat) → mi_H → Prop} {o6 o7 o8 : Option Value} {go : Nat → Int64} {k : Int32}
theorem lt_feed {v : Int32} (hn : 575 ≤ n) (h0 : b.I 505 0 = k) (ho : hd b f0 574 = .inl (3, 1, .inr (.inl go))) (hv : k = 0 → go 0 = v.toInt64) (K : ∀ o6 o7 o8, mi_W (d + 1) 204 1165 [some (.ref mi_SC), some (.ref 0), some (.ref 505), some (.ref 574), some (.int (Int32.ofNat i)), o6, o7, o8] [] (n, sl, hd b f0) Q) : mi_W (d + 1) 204 183 [some (.ref mi_SC), some (.ref 0), some (.ref 505), some (.ref 574), some (.int (Int32.ofNat i)), some (.int k), o7, o8] [.int v] (n, sl, hd b f0) Q := by
  have q5 : hd b f0 505 = _ := hd_9
  refine b_204_183 _ _ _ (by assumption) (by omega) ?_
  refine gq_thrown hn h0 ?_
  refine b_204_189 _ _ _ ?_ ?_
  · intro _
    refine b_204_196 _ _ _ ?_ ?_
    · intro _
      refine b_204_213 _ _ _ ?_
      exact K _ _ _
    · intro z
      have hk : k = 0 := Classical.not_not.mp z
      refine b_204_201 _ _ _ _ _ _ (by assumption) (by omega) (by exact ⟨by decide, rfl, by decide⟩) ?_ ?_
      · intro _
        refine b_204_213 _ _ _ ?_
        exact K _ _ _
      · intro z2
        refine absurd ?_ z2
        rw [show go (Int32.toNatClampNeg 0) = _ from hv hk]
        exact lg_eq _
  · intro z
    exact absurd rfl z
theorem lt_end {v : Int32} (hn : 575 ≤ n) (h0 : b.I 505 0 = k) (ho : hd b f0 574 = .inl (3, 1, .inr (.inl go))) (hv : k = 0 → go 0 = v.toInt64) (K : ∀ o6 o7 o8, mi_W (d + 1) 204 1165 [some (.ref mi_SC), some (.ref 0), some (.ref 505), some (.ref 574), some (.int (Int32.ofNat i)), o6, o7, o8] [] (n, sl, hd b f0) Q) : mi_W (d + 1) 204 239 [some (.ref mi_SC), some (.ref 0), some (.ref 505), some (.ref 574), some (.int (Int32.ofNat i)), some (.int k), o7, o8] [.int v] (n, sl, hd b f0) Q := by
  have q5 : hd b f0 505 = _ := hd_9
  refine b_204_239 _ _ _ (by assumption) (by omega) ?_
  refine gq_thrown hn h0 ?_
  refine b_204_245 _ _ _ ?_ ?_
  · intro _
    refine b_204_252 _ _ _ ?_ ?_
    · intro _
      refine b_204_269 _ _ _ ?_
      exact K _ _ _
    · intro z
      have hk : k = 0 := Classical.not_not.mp z
      refine b_204_257 _ _ _ _ _ _ (by assumption) (by omega) (by exact ⟨by decide, rfl, by decide⟩) ?_ ?_
      · intro _
        refine b_204_269 _ _ _ ?_
        exact K _ _ _
      · intro z2
        refine absurd ?_ z2
        rw [show go (Int32.toNatClampNeg 0) = _ from hv hk]
        exact lg_eq _
  · intro z
    exact absurd rfl z
theorem lt_wallet {v : Int64} (hn : 575 ≤ n) (h0 : b.I 505 0 = k) (ho : hd b f0 574 = .inl (3, 1, .inr (.inl go))) (hv : k = 0 → go 0 = v) (K : ∀ o6 o7 o8, mi_W (d + 1) 204 1165 [some (.ref mi_SC), some (.ref 0), some (.ref 505), some (.ref 574), some (.int (Int32.ofNat i)), o6, o7, o8] [] (n, sl, hd b f0) Q) : mi_W (d + 1) 204 364 [some (.ref mi_SC), some (.ref 0), some (.ref 505), some (.ref 574), some (.int (Int32.ofNat i)), some (.int k), o7, o8] [.long v] (n, sl, hd b f0) Q := by
  have q5 : hd b f0 505 = _ := hd_9
  refine b_204_364 _ _ _ (by assumption) (by omega) ?_
  refine gq_thrown hn h0 ?_
  refine b_204_370 _ _ _ ?_ ?_
  · intro _
    refine b_204_377 _ _ _ ?_ ?_
    · intro _
      refine b_204_393 _ _ _ ?_
      exact K _ _ _
    · intro z
      have hk : k = 0 := Classical.not_not.mp z
      refine b_204_382 _ _ _ _ _ _ (by assumption) (by omega) (by exact ⟨by decide, rfl, by decide⟩) ?_ ?_
      · intro _
        refine b_204_393 _ _ _ ?_
        exact K _ _ _
      · intro z2
        refine absurd ?_ z2
        rw [show go (Int32.toNatClampNeg 0) = _ from hv hk]
        exact lg_eq _
  · intro z
    exact absurd rfl z
theorem lt_deposit {v : Int32} (hn : 575 ≤ n) (h0 : b.I 505 0 = k) (ho : hd b f0 574 = .inl (3, 1, .inr (.inl go))) (hv : k = 0 → go 0 = v.toInt64) (K : ∀ o6 o7 o8, mi_W (d + 1) 204 1165 [some (.ref mi_SC), some (.ref 0), some (.ref 505), some (.ref 574), some (.int (Int32.ofNat i)), o6, o7, o8] [] (n, sl, hd b f0) Q) : mi_W (d + 1) 204 487 [some (.ref mi_SC), some (.ref 0), some (.ref 505), some (.ref 574), some (.int (Int32.ofNat i)), some (.int k), o7, o8] [.int v] (n, sl, hd b f0) Q := by
  have q5 : hd b f0 505 = _ := hd_9
  refine b_204_487 _ _ _ (by assumption) (by omega) ?_
  refine gq_thrown hn h0 ?_
  refine b_204_493 _ _ _ ?_ ?_
  · intro _
    refine b_204_500 _ _ _ ?_ ?_
    · intro _
      refine b_204_517 _ _ _ ?_
      exact K _ _ _
    · intro z
      have hk : k = 0 := Classical.not_not.mp z
      refine b_204_505 _ _ _ _ _ _ (by assumption) (by omega) (by exact ⟨by decide, rfl, by decide⟩) ?_ ?_
      · intro _
        refine b_204_517 _ _ _ ?_
        exact K _ _ _
      · intro z2
        refine absurd ?_ z2
        rw [show go (Int32.toNatClampNeg 0) = _ from hv hk]
        exact lg_eq _
  · intro z
    exact absurd rfl z
theorem lt_choose {v : Int32} (hn : 575 ≤ n) (h0 : b.I 505 0 = k) (ho : hd b f0 574 = .inl (3, 1, .inr (.inl go))) (hv : k = 0 → go 0 = v.toInt64) (K : ∀ o6 o7 o8, mi_W (d + 1) 204 1165 [some (.ref mi_SC), some (.ref 0), some (.ref 505), some (.ref 574), some (.int (Int32.ofNat i)), o6, o7, o8] [] (n, sl, hd b f0) Q) : mi_W (d + 1) 204 587 [some (.ref mi_SC), some (.ref 0), some (.ref 505), some (.ref 574), some (.int (Int32.ofNat i)), some (.int k), o7, o8] [.int v] (n, sl, hd b f0) Q := by
  have q5 : hd b f0 505 = _ := hd_9
  refine b_204_587 _ _ _ (by assumption) (by omega) ?_
  refine gq_thrown hn h0 ?_
  refine b_204_593 _ _ _ ?_ ?_
  · intro _
    refine b_204_600 _ _ _ ?_ ?_
    · intro _
      refine b_204_617 _ _ _ ?_
      exact K _ _ _
    · intro z
      have hk : k = 0 := Classical.not_not.mp z
      refine b_204_605 _ _ _ _ _ _ (by assumption) (by omega) (by exact ⟨by decide, rfl, by decide⟩) ?_ ?_
      · intro _
        refine b_204_617 _ _ _ ?_
        exact K _ _ _
      · intro z2
        refine absurd ?_ z2
        rw [show go (Int32.toNatClampNeg 0) = _ from hv hk]
        exact lg_eq _
  · intro z
    exact absurd rfl z
theorem lt_remind {v : Int32} (hn : 575 ≤ n) (h0 : b.I 505 0 = k) (ho : hd b f0 574 = .inl (3, 1, .inr (.inl go))) (hv : k = 0 → go 0 = v.toInt64) (K : ∀ o6 o7 o8, mi_W (d + 1) 204 1165 [some (.ref mi_SC), some (.ref 0), some (.ref 505), some (.ref 574), some (.int (Int32.ofNat i)), o6, o7, o8] [] (n, sl, hd b f0) Q) : mi_W (d + 1) 204 631 [some (.ref mi_SC), some (.ref 0), some (.ref 505), some (.ref 574), some (.int (Int32.ofNat i)), some (.int k), o7, o8] [.int v] (n, sl, hd b f0) Q := by
  have q5 : hd b f0 505 = _ := hd_9
  refine b_204_631 _ _ _ (by assumption) (by omega) ?_
  refine gq_thrown hn h0 ?_
  refine b_204_637 _ _ _ ?_ ?_
  · intro _
    refine b_204_644 _ _ _ ?_ ?_
    · intro _
      refine b_204_661 _ _ _ ?_
      exact K _ _ _
    · intro z
      have hk : k = 0 := Classical.not_not.mp z
      refine b_204_649 _ _ _ _ _ _ (by assumption) (by omega) (by exact ⟨by decide, rfl, by decide⟩) ?_ ?_
      · intro _
        refine b_204_661 _ _ _ ?_
        exact K _ _ _
      · intro z2
        refine absurd ?_ z2
        rw [show go (Int32.toNatClampNeg 0) = _ from hv hk]
        exact lg_eq _
  · intro z
    exact absurd rfl z
theorem lt_apply {v : Int32} (hn : 575 ≤ n) (h0 : b.I 505 0 = k) (ho : hd b f0 574 = .inl (3, 1, .inr (.inl go))) (hv : k = 0 → go 0 = v.toInt64) (K : ∀ o6 o7 o8, mi_W (d + 1) 204 1165 [some (.ref mi_SC), some (.ref 0), some (.ref 505), some (.ref 574), some (.int (Int32.ofNat i)), o6, o7, o8] [] (n, sl, hd b f0) Q) : mi_W (d + 1) 204 763 [some (.ref mi_SC), some (.ref 0), some (.ref 505), some (.ref 574), some (.int (Int32.ofNat i)), some (.int k), o7, o8] [.int v] (n, sl, hd b f0) Q := by
  have q5 : hd b f0 505 = _ := hd_9
  refine b_204_763 _ _ _ (by assumption) (by omega) ?_
  refine gq_thrown hn h0 ?_
  refine b_204_769 _ _ _ ?_ ?_
  · intro _
    refine b_204_776 _ _ _ ?_ ?_
    · intro _
      refine b_204_793 _ _ _ ?_
      exact K _ _ _
    · intro z
      have hk : k = 0 := Classical.not_not.mp z
      refine b_204_781 _ _ _ _ _ _ (by assumption) (by omega) (by exact ⟨by decide, rfl, by decide⟩) ?_ ?_
      · intro _
        refine b_204_793 _ _ _ ?_
        exact K _ _ _
      · intro z2
        refine absurd ?_ z2
        rw [show go (Int32.toNatClampNeg 0) = _ from hv hk]
        exact lg_eq _
  · intro z
    exact absurd rfl z
theorem lt_told {v : Int32} (hn : 575 ≤ n) (h0 : b.I 505 0 = k) (ho : hd b f0 574 = .inl (3, 1, .inr (.inl go))) (hv : k = 0 → go 0 = v.toInt64) (K : ∀ o6 o7 o8, mi_W (d + 1) 204 1165 [some (.ref mi_SC), some (.ref 0), some (.ref 505), some (.ref 574), some (.int (Int32.ofNat i)), o6, o7, o8] [] (n, sl, hd b f0) Q) : mi_W (d + 1) 204 831 [some (.ref mi_SC), some (.ref 0), some (.ref 505), some (.ref 574), some (.int (Int32.ofNat i)), some (.int k), o7, o8] [.int v] (n, sl, hd b f0) Q := by
  have q5 : hd b f0 505 = _ := hd_9
  refine b_204_831 _ _ _ (by assumption) (by omega) ?_
  refine gq_thrown hn h0 ?_
  refine b_204_837 _ _ _ ?_ ?_
  · intro _
    refine b_204_844 _ _ _ ?_ ?_
    · intro _
      refine b_204_861 _ _ _ ?_
      exact K _ _ _
    · intro z
      have hk : k = 0 := Classical.not_not.mp z
      refine b_204_849 _ _ _ _ _ _ (by assumption) (by omega) (by exact ⟨by decide, rfl, by decide⟩) ?_ ?_
      · intro _
        refine b_204_861 _ _ _ ?_
        exact K _ _ _
      · intro z2
        refine absurd ?_ z2
        rw [show go (Int32.toNatClampNeg 0) = _ from hv hk]
        exact lg_eq _
  · intro z
    exact absurd rfl z
theorem lt_paid {v : Int64} (hn : 575 ≤ n) (h0 : b.I 505 0 = k) (ho : hd b f0 574 = .inl (3, 1, .inr (.inl go))) (hv : k = 0 → go 0 = v) (K : ∀ o6 o7 o8, mi_W (d + 1) 204 1165 [some (.ref mi_SC), some (.ref 0), some (.ref 505), some (.ref 574), some (.int (Int32.ofNat i)), o6, o7, o8] [] (n, sl, hd b f0) Q) : mi_W (d + 1) 204 887 [some (.ref mi_SC), some (.ref 0), some (.ref 505), some (.ref 574), some (.int (Int32.ofNat i)), some (.int k), o7, o8] [.long v] (n, sl, hd b f0) Q := by
  have q5 : hd b f0 505 = _ := hd_9
  refine b_204_887 _ _ _ (by assumption) (by omega) ?_
  refine gq_thrown hn h0 ?_
  refine b_204_893 _ _ _ ?_ ?_
  · intro _
    refine b_204_900 _ _ _ ?_ ?_
    · intro _
      refine b_204_916 _ _ _ ?_
      exact K _ _ _
    · intro z
      have hk : k = 0 := Classical.not_not.mp z
      refine b_204_905 _ _ _ _ _ _ (by assumption) (by omega) (by exact ⟨by decide, rfl, by decide⟩) ?_ ?_
      · intro _
        refine b_204_916 _ _ _ ?_
        exact K _ _ _
      · intro z2
        refine absurd ?_ z2
        rw [show go (Int32.toNatClampNeg 0) = _ from hv hk]
        exact lg_eq _
  · intro z
    exact absurd rfl z
theorem lt_state {v : Int64} (hn : 575 ≤ n) (h0 : b.I 505 0 = k) (ho : hd b f0 574 = .inl (3, 1, .inr (.inl go))) (hv : k = 0 → go 0 = v) (K : ∀ o6 o7 o8, mi_W (d + 1) 204 1165 [some (.ref mi_SC), some (.ref 0), some (.ref 505), some (.ref 574), some (.int (Int32.ofNat i)), o6, o7, o8] [] (n, sl, hd b f0) Q) : mi_W (d + 1) 204 966 [some (.ref mi_SC), some (.ref 0), some (.ref 505), some (.ref 574), some (.int (Int32.ofNat i)), some (.int k), o7, o8] [.long v] (n, sl, hd b f0) Q := by
  have q5 : hd b f0 505 = _ := hd_9
  refine b_204_966 _ _ _ (by assumption) (by omega) ?_
  refine gq_thrown hn h0 ?_
  refine b_204_972 _ _ _ ?_ ?_
  · intro _
    refine b_204_979 _ _ _ ?_ ?_
    · intro _
      refine b_204_995 _ _ _ ?_
      exact K _ _ _
    · intro z
      have hk : k = 0 := Classical.not_not.mp z
      refine b_204_984 _ _ _ _ _ _ (by assumption) (by omega) (by exact ⟨by decide, rfl, by decide⟩) ?_ ?_
      · intro _
        refine b_204_995 _ _ _ ?_
        exact K _ _ _
      · intro z2
        refine absurd ?_ z2
        rw [show go (Int32.toNatClampNeg 0) = _ from hv hk]
        exact lg_eq _
  · intro z
    exact absurd rfl z
theorem lt_analyse {v : Int32} (hn : 575 ≤ n) (h0 : b.I 505 0 = k) (ho : hd b f0 574 = .inl (3, 1, .inr (.inl go))) (hv : k = 0 → go 0 = v.toInt64) (K : ∀ o6 o7 o8, mi_W (d + 1) 204 1165 [some (.ref mi_SC), some (.ref 0), some (.ref 505), some (.ref 574), some (.int (Int32.ofNat i)), o6, o7, o8] [] (n, sl, hd b f0) Q) : mi_W (d + 1) 204 1009 [some (.ref mi_SC), some (.ref 0), some (.ref 505), some (.ref 574), some (.int (Int32.ofNat i)), some (.int k), o7, o8] [.int v] (n, sl, hd b f0) Q := by
  have q5 : hd b f0 505 = _ := hd_9
  refine b_204_1009 _ _ _ (by assumption) (by omega) ?_
  refine gq_thrown hn h0 ?_
  refine b_204_1015 _ _ _ ?_ ?_
  · intro _
    refine b_204_1022 _ _ _ ?_ ?_
    · intro _
      refine b_204_1039 _ _ _ ?_
      exact K _ _ _
    · intro z
      have hk : k = 0 := Classical.not_not.mp z
      refine b_204_1027 _ _ _ _ _ _ (by assumption) (by omega) (by exact ⟨by decide, rfl, by decide⟩) ?_ ?_
      · intro _
        refine b_204_1039 _ _ _ ?_
        exact K _ _ _
      · intro z2
        refine absurd ?_ z2
        rw [show go (Int32.toNatClampNeg 0) = _ from hv hk]
        exact lg_eq _
  · intro z
    exact absurd rfl z
theorem lt_step {v : Int64} (hn : 575 ≤ n) (h0 : b.I 505 0 = k) (ho : hd b f0 574 = .inl (3, 1, .inr (.inl go))) (hv : k = 0 → go 0 = v) (K : ∀ o6 o7 o8, mi_W (d + 1) 204 1165 [some (.ref mi_SC), some (.ref 0), some (.ref 505), some (.ref 574), some (.int (Int32.ofNat i)), o6, o7, o8] [] (n, sl, hd b f0) Q) : mi_W (d + 1) 204 1077 [some (.ref mi_SC), some (.ref 0), some (.ref 505), some (.ref 574), some (.int (Int32.ofNat i)), some (.int k), o7, o8] [.long v] (n, sl, hd b f0) Q := by
  have q5 : hd b f0 505 = _ := hd_9
  refine b_204_1077 _ _ _ (by assumption) (by omega) ?_
  refine gq_thrown hn h0 ?_
  refine b_204_1083 _ _ _ ?_ ?_
  · intro _
    refine b_204_1090 _ _ _ ?_ ?_
    · intro _
      refine b_204_1106 _ _ _ ?_
      exact K _ _ _
    · intro z
      have hk : k = 0 := Classical.not_not.mp z
      refine b_204_1095 _ _ _ _ _ _ (by assumption) (by omega) (by exact ⟨by decide, rfl, by decide⟩) ?_ ?_
      · intro _
        refine b_204_1106 _ _ _ ?_
        exact K _ _ _
      · intro z2
        refine absurd ?_ z2
        rw [show go (Int32.toNatClampNeg 0) = _ from hv hk]
        exact lg_eq _
  · intro z
    exact absurd rfl z
theorem lt_count {v : Int32} (hn : 575 ≤ n) (h0 : b.I 505 0 = k) (ho : hd b f0 574 = .inl (3, 1, .inr (.inl go))) (hv : k = 0 → go 0 = v.toInt64) (K : ∀ o6 o7 o8, mi_W (d + 1) 204 1165 [some (.ref mi_SC), some (.ref 0), some (.ref 505), some (.ref 574), some (.int (Int32.ofNat i)), o6, o7, o8] [] (n, sl, hd b f0) Q) : mi_W (d + 1) 204 1132 [some (.ref mi_SC), some (.ref 0), some (.ref 505), some (.ref 574), some (.int (Int32.ofNat i)), some (.int k), o7, o8] [.int v] (n, sl, hd b f0) Q := by
  have q5 : hd b f0 505 = _ := hd_9
  refine b_204_1132 _ _ _ (by assumption) (by omega) ?_
  refine gq_thrown hn h0 ?_
  refine b_204_1138 _ _ _ ?_ ?_
  · intro _
    refine b_204_1145 _ _ _ ?_ ?_
    · intro _
      refine b_204_1162 _ _ _ ?_
      exact K _ _ _
    · intro z
      have hk : k = 0 := Classical.not_not.mp z
      refine b_204_1150 _ _ _ _ _ _ (by assumption) (by omega) (by exact ⟨by decide, rfl, by decide⟩) ?_ ?_
      · intro _
        refine b_204_1162 _ _ _ ?_
        exact K _ _ _
      · intro z2
        refine absurd ?_ z2
        rw [show go (Int32.toNatClampNeg 0) = _ from hv hk]
        exact lg_eq _
  · intro z
    exact absurd rfl z
end
