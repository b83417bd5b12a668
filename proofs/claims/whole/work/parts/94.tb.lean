/-! tokens: which constant a token is -/
section
variable {g : Nat → Int32} {L k p a b c : Nat}
theorem ms_ct_ky (h : (ms_ky g a b 24 0) = 38 ∨ ms_ky g a b 24 0 < 24) : ms_ct (ms_ky g a b 24 0) = 4 ∧ ms_ky g a b 24 0 < 24 ∨ ms_ct (ms_ky g a b 24 0) = 1 ∧ ms_ky g a b 24 0 = 38 := by
  rcases h with h | h
  · right
    rw [h]
    exact ⟨rfl, rfl⟩
  · left
    refine ⟨?_, h⟩
    unfold ms_ct
    rw [if_pos h]
theorem ms_sg_r {x e : Int32} : 24 ≤ ms_sg x e ∧ ms_sg x e ≤ 40 ∧ ms_sg x e ≠ 37 ∧ ms_sg x e ≠ 38 ∧ ms_sg x e ≠ 39 := by
  unfold ms_sg
  repeat' split
  all_goals decide
theorem ms_ct_sg {x e : Int32} : ms_ct (ms_sg x e) = 3 := by
  have h := ms_sg_r (x := x) (e := e)
  unfold ms_ct
  rw [if_neg (by omega), if_neg h.2.2.1, if_neg h.2.2.2.1, if_neg h.2.2.2.2]
/-- what a token is -/
theorem ms_tk_w (hk : k ≤ L) : (ms_ct (ms_tk g L k).k = 4 ∧ (ms_tk g L k).k < 24 ∧ mr_is g (ms_tk g L k).a (ms_tk g L k).b (16 + (ms_tk g L k).k)) ∨ (ms_ct (ms_tk g L k).k ≠ 4 ∧ 24 ≤ (ms_tk g L k).k) := by
  unfold ms_tk
  split
  · exact Or.inr (show ms_ct 39 ≠ 4 ∧ 24 ≤ 39 by decide)
  · split
    · have h := ms_ky_is (g := g) (a := k) (b := ms_wd g L 16 k) 24 0
      rcases h with h | ⟨_, h2, h3⟩
      · right
        show ms_ct (ms_ky g k (ms_wd g L 16 k) 24 0) ≠ 4 ∧ 24 ≤ ms_ky g k (ms_wd g L 16 k) 24 0
        rw [h]
        exact ⟨by decide, by decide⟩
      · left
        refine ⟨?_, h2, h3⟩
        show ms_ct (ms_ky g k (ms_wd g L 16 k) 24 0) = 4
        unfold ms_ct
        rw [if_pos (by omega)]
    · split
      · exact Or.inr (show ms_ct 37 ≠ 4 ∧ 24 ≤ 37 by decide)
      · split
        · exact Or.inr (show ms_ct 37 ≠ 4 ∧ 24 ≤ 37 by decide)
        · right
          refine ⟨?_, ms_sg_r.1⟩
          show ms_ct (ms_sg _ _) ≠ 4
          rw [ms_ct_sg]
          decide
theorem ms_tk_key (hk : k ≤ L) (hc : 16 ≤ c ∧ c < 40) : (ms_ct (ms_tk g L k).k = 4 ∧ mr_is g (ms_tk g L k).a (ms_tk g L k).b c) ↔ (ms_tk g L k).k = ms_kc c := by
  obtain ⟨j, rfl⟩ : ∃ j, c = 16 + j := ⟨c - 16, by omega⟩
  have e := ms_kc_k ⟨j, by omega⟩
  simp only at e
  rw [e]
  rcases ms_tk_w (g := g) hk with ⟨h1, h2, h3⟩ | ⟨h1, h2⟩
  · constructor
    · intro h
      have := ms_is_u (by omega) (by omega) h3 h.2
      omega
    · intro h
      refine ⟨h1, ?_⟩
      rw [← h]
      exact h3
  · constructor
    · intro h
      exact absurd h.1 h1
    · intro h
      omega
theorem mr_is1 (h : mt_sl.getD c 0 = 1) : mr_is g a b c ↔ b - a = 1 ∧ g a = st_v c 0 := by
  unfold mr_is
  rw [h]
  constructor
  · intro h'
    exact ⟨h'.1, h'.2 0 (by decide)⟩
  · intro h'
    refine ⟨h'.1, fun k hk => ?_⟩
    obtain rfl : k = 0 := by omega
    exact h'.2
theorem mr_is2 (h : mt_sl.getD c 0 = 2) : mr_is g a b c ↔ b - a = 2 ∧ g a = st_v c 0 ∧ g (a + 1) = st_v c 1 := by
  unfold mr_is
  rw [h]
  constructor
  · intro h'
    exact ⟨h'.1, h'.2 0 (by decide), h'.2 1 (by decide)⟩
  · intro h'
    refine ⟨h'.1, fun k hk => ?_⟩
    rcases (by omega : k = 0 ∨ k = 1) with rfl | rfl
    · exact h'.2.1
    · exact h'.2.2
theorem ms_sg_cs {x e : Int32} : (x = 40 ∧ ms_sg x e = 24) ∨ (x = 41 ∧ ms_sg x e = 25) ∨ (x = 91 ∧ ms_sg x e = 26) ∨ (x = 93 ∧ ms_sg x e = 27) ∨ (x = 43 ∧ ms_sg x e = 28) ∨ (x = 45 ∧ ms_sg x e = 29) ∨ (x = 42 ∧ ms_sg x e = 30) ∨ (x = 47 ∧ ms_sg x e = 31) ∨ (x = 60 ∧ e = 61 ∧ ms_sg x e = 33) ∨ (x = 60 ∧ ¬ e = 61 ∧ ms_sg x e = 32) ∨ (x = 62 ∧ e = 61 ∧ ms_sg x e = 35) ∨ (x = 62 ∧ ¬ e = 61 ∧ ms_sg x e = 34) ∨ (x = 61 ∧ ms_sg x e = 36) ∨ ms_sg x e = 40 := by
  by_cases h0 : x = 40
  · have hs : ms_sg x e = 24 := by
      unfold ms_sg
      rw [if_pos h0]
    exact Or.inl ⟨h0, hs⟩
  by_cases h1 : x = 41
  · have hs : ms_sg x e = 25 := by
      unfold ms_sg
      rw [if_neg h0, if_pos h1]
    exact Or.inr <| Or.inl ⟨h1, hs⟩
  by_cases h2 : x = 91
  · have hs : ms_sg x e = 26 := by
      unfold ms_sg
      rw [if_neg h0, if_neg h1, if_pos h2]
    exact Or.inr <| Or.inr <| Or.inl ⟨h2, hs⟩
  by_cases h3 : x = 93
  · have hs : ms_sg x e = 27 := by
      unfold ms_sg
      rw [if_neg h0, if_neg h1, if_neg h2, if_pos h3]
    exact Or.inr <| Or.inr <| Or.inr <| Or.inl ⟨h3, hs⟩
  by_cases h4 : x = 43
  · have hs : ms_sg x e = 28 := by
      unfold ms_sg
      rw [if_neg h0, if_neg h1, if_neg h2, if_neg h3, if_pos h4]
    exact Or.inr <| Or.inr <| Or.inr <| Or.inr <| Or.inl ⟨h4, hs⟩
  by_cases h5 : x = 45
  · have hs : ms_sg x e = 29 := by
      unfold ms_sg
      rw [if_neg h0, if_neg h1, if_neg h2, if_neg h3, if_neg h4, if_pos h5]
    exact Or.inr <| Or.inr <| Or.inr <| Or.inr <| Or.inr <| Or.inl ⟨h5, hs⟩
  by_cases h6 : x = 42
  · have hs : ms_sg x e = 30 := by
      unfold ms_sg
      rw [if_neg h0, if_neg h1, if_neg h2, if_neg h3, if_neg h4, if_neg h5, if_pos h6]
    exact Or.inr <| Or.inr <| Or.inr <| Or.inr <| Or.inr <| Or.inr <| Or.inl ⟨h6, hs⟩
  by_cases h7 : x = 47
  · have hs : ms_sg x e = 31 := by
      unfold ms_sg
      rw [if_neg h0, if_neg h1, if_neg h2, if_neg h3, if_neg h4, if_neg h5, if_neg h6, if_pos h7]
    exact Or.inr <| Or.inr <| Or.inr <| Or.inr <| Or.inr <| Or.inr <| Or.inr <| Or.inl ⟨h7, hs⟩
  by_cases h8 : x = 60
  · by_cases he : e = 61
    · have hs : ms_sg x e = 33 := by
        unfold ms_sg
        rw [if_neg h0, if_neg h1, if_neg h2, if_neg h3, if_neg h4, if_neg h5, if_neg h6, if_neg h7, if_pos h8, if_pos he]
      exact Or.inr <| Or.inr <| Or.inr <| Or.inr <| Or.inr <| Or.inr <| Or.inr <| Or.inr <| Or.inl ⟨h8, he, hs⟩
    · have hs : ms_sg x e = 32 := by
        unfold ms_sg
        rw [if_neg h0, if_neg h1, if_neg h2, if_neg h3, if_neg h4, if_neg h5, if_neg h6, if_neg h7, if_pos h8, if_neg he]
      exact Or.inr <| Or.inr <| Or.inr <| Or.inr <| Or.inr <| Or.inr <| Or.inr <| Or.inr <| Or.inr <| Or.inl ⟨h8, he, hs⟩
  by_cases h9 : x = 62
  · by_cases he : e = 61
    · have hs : ms_sg x e = 35 := by
        unfold ms_sg
        rw [if_neg h0, if_neg h1, if_neg h2, if_neg h3, if_neg h4, if_neg h5, if_neg h6, if_neg h7, if_neg h8, if_pos h9, if_pos he]
      exact Or.inr <| Or.inr <| Or.inr <| Or.inr <| Or.inr <| Or.inr <| Or.inr <| Or.inr <| Or.inr <| Or.inr <| Or.inl ⟨h9, he, hs⟩
    · have hs : ms_sg x e = 34 := by
        unfold ms_sg
        rw [if_neg h0, if_neg h1, if_neg h2, if_neg h3, if_neg h4, if_neg h5, if_neg h6, if_neg h7, if_neg h8, if_pos h9, if_neg he]
      exact Or.inr <| Or.inr <| Or.inr <| Or.inr <| Or.inr <| Or.inr <| Or.inr <| Or.inr <| Or.inr <| Or.inr <| Or.inr <| Or.inl ⟨h9, he, hs⟩
  by_cases h10 : x = 61
  · have hs : ms_sg x e = 36 := by
      unfold ms_sg
      rw [if_neg h0, if_neg h1, if_neg h2, if_neg h3, if_neg h4, if_neg h5, if_neg h6, if_neg h7, if_neg h8, if_neg h9, if_pos h10]
    exact Or.inr <| Or.inr <| Or.inr <| Or.inr <| Or.inr <| Or.inr <| Or.inr <| Or.inr <| Or.inr <| Or.inr <| Or.inr <| Or.inr <| Or.inl ⟨h10, hs⟩
  · have hs : ms_sg x e = 40 := by
      unfold ms_sg
      rw [if_neg h0, if_neg h1, if_neg h2, if_neg h3, if_neg h4, if_neg h5, if_neg h6, if_neg h7, if_neg h8, if_neg h9, if_neg h10]
    exact Or.inr <| Or.inr <| Or.inr <| Or.inr <| Or.inr <| Or.inr <| Or.inr <| Or.inr <| Or.inr <| Or.inr <| Or.inr <| Or.inr <| Or.inr <| hs
theorem ms_sg_1 {x e : Int32} (c : Nat) (hc : c = 40 ∨ c = 41 ∨ c = 42 ∨ c = 43 ∨ c = 44 ∨ c = 45 ∨ c = 50 ∨ c = 51 ∨ c = 52) : (¬ ((x = 60 ∨ x = 62) ∧ e = 61) ∧ x = st_v c 0) ↔ ms_sg x e = ms_kc c := by
  rcases hc with rfl | rfl | rfl | rfl | rfl | rfl | rfl | rfl | rfl
  all_goals
    constructor
    · rintro ⟨_, h⟩
      rw [h]
      exact rfl
    · intro h
      rcases ms_sg_cs (x := x) (e := e) with ⟨hx, hs⟩ | ⟨hx, hs⟩ | ⟨hx, hs⟩ | ⟨hx, hs⟩ | ⟨hx, hs⟩ | ⟨hx, hs⟩ | ⟨hx, hs⟩ | ⟨hx, hs⟩ | ⟨hx, he, hs⟩ | ⟨hx, he, hs⟩ | ⟨hx, he, hs⟩ | ⟨hx, he, hs⟩ | ⟨hx, hs⟩ | hs
      all_goals
        rw [hs] at h
        first
          | (exact absurd h (by decide))
          | (rw [hx]
             exact ⟨fun z => absurd z.1 (by decide), rfl⟩)
theorem ms_sg_4 {e : Int32} (he : ¬ e = 61) : ms_sg (st_v 47 0) e = ms_kc 47 ∧ ms_sg (st_v 49 0) e = ms_kc 49 := by
  constructor
  · show (if e = 61 then 35 else 34) = 34
    rw [if_neg he]
  · show (if e = 61 then 33 else 32) = 32
    rw [if_neg he]
theorem ms_sg_2 {x e : Int32} (c : Nat) (hc : c = 47 ∨ c = 49) : (¬ ((x = 60 ∨ x = 62) ∧ e = 61) ∧ x = st_v c 0) ↔ ms_sg x e = ms_kc c := by
  rcases hc with rfl | rfl
  all_goals
    constructor
    · rintro ⟨h1, h⟩
      have he : ¬ e = 61 := fun z => h1 ⟨by rw [h]; decide, z⟩
      rw [h]
      first | exact (ms_sg_4 he).1 | exact (ms_sg_4 he).2
    · intro h
      rcases ms_sg_cs (x := x) (e := e) with ⟨hx, hs⟩ | ⟨hx, hs⟩ | ⟨hx, hs⟩ | ⟨hx, hs⟩ | ⟨hx, hs⟩ | ⟨hx, hs⟩ | ⟨hx, hs⟩ | ⟨hx, hs⟩ | ⟨hx, he, hs⟩ | ⟨hx, he, hs⟩ | ⟨hx, he, hs⟩ | ⟨hx, he, hs⟩ | ⟨hx, hs⟩ | hs
      all_goals
        rw [hs] at h
        first
          | (exact absurd h (by decide))
          | (rw [hx]
             exact ⟨fun z => he z.2, rfl⟩)
theorem ms_sg_3 {x e : Int32} (c : Nat) (hc : c = 46 ∨ c = 48) : (((x = 60 ∨ x = 62) ∧ e = 61) ∧ x = st_v c 0 ∧ e = st_v c 1) ↔ ms_sg x e = ms_kc c := by
  rcases hc with rfl | rfl
  all_goals
    constructor
    · rintro ⟨⟨h1, he⟩, h, _⟩
      rw [h, he]
      exact rfl
    · intro h
      rcases ms_sg_cs (x := x) (e := e) with ⟨hx, hs⟩ | ⟨hx, hs⟩ | ⟨hx, hs⟩ | ⟨hx, hs⟩ | ⟨hx, hs⟩ | ⟨hx, hs⟩ | ⟨hx, hs⟩ | ⟨hx, hs⟩ | ⟨hx, he, hs⟩ | ⟨hx, he, hs⟩ | ⟨hx, he, hs⟩ | ⟨hx, he, hs⟩ | ⟨hx, hs⟩ | hs
      all_goals
        rw [hs] at h
        first
          | (exact absurd h (by decide))
          | (rw [hx, he]
             decide)
theorem ms_sg_40 {x e : Int32} (v : Int32) (hv : v = 40 ∨ v = 41 ∨ v = 91 ∨ v = 93 ∨ v = 43 ∨ v = 45 ∨ v = 42 ∨ v = 47 ∨ v = 60 ∨ v = 62 ∨ v = 61) (hx : x = v) : ¬ ms_sg x e = 40 := by
  subst hx
  intro h
  rcases ms_sg_cs (x := x) (e := e) with ⟨_, hs⟩ | ⟨_, hs⟩ | ⟨_, hs⟩ | ⟨_, hs⟩ | ⟨_, hs⟩ | ⟨_, hs⟩ | ⟨_, hs⟩ | ⟨_, hs⟩ | ⟨_, _, hs⟩ | ⟨_, _, hs⟩ | ⟨_, _, hs⟩ | ⟨_, _, hs⟩ | ⟨_, hs⟩ | hs
  all_goals first
    | (exact absurd (h.symm.trans hs) (by decide))
    | skip
  rcases hv with rfl | rfl | rfl | rfl | rfl | rfl | rfl | rfl | rfl | rfl | rfl
  · exact absurd (h.symm.trans (show ms_sg 40 e = 24 from rfl)) (by decide)
  · exact absurd (h.symm.trans (show ms_sg 41 e = 25 from rfl)) (by decide)
  · exact absurd (h.symm.trans (show ms_sg 91 e = 26 from rfl)) (by decide)
  · exact absurd (h.symm.trans (show ms_sg 93 e = 27 from rfl)) (by decide)
  · exact absurd (h.symm.trans (show ms_sg 43 e = 28 from rfl)) (by decide)
  · exact absurd (h.symm.trans (show ms_sg 45 e = 29 from rfl)) (by decide)
  · exact absurd (h.symm.trans (show ms_sg 42 e = 30 from rfl)) (by decide)
  · exact absurd (h.symm.trans (show ms_sg 47 e = 31 from rfl)) (by decide)
  · have h : (if e = 61 then 33 else 32) = 40 := h
    split at h <;> omega
  · have h : (if e = 61 then 35 else 34) = 40 := h
    split at h <;> omega
  · exact absurd (h.symm.trans (show ms_sg 61 e = 36 from rfl)) (by decide)
theorem ms_tk_sign (hk : k ≤ L) (hc : 40 ≤ c ∧ c < 53) : (ms_ct (ms_tk g L k).k = 3 ∧ mr_is g (ms_tk g L k).a (ms_tk g L k).b c) ↔ (ms_tk g L k).k = ms_kc c := by
  have hkc : 24 ≤ ms_kc c ∧ ms_kc c ≤ 36 := by
    have : ∀ j : Fin 13, 24 ≤ ms_kc (40 + j.1) ∧ ms_kc (40 + j.1) ≤ 36 := by decide +kernel
    have h := this ⟨c - 40, by omega⟩
    simp only at h
    rw [show 40 + (c - 40) = c by omega] at h
    exact h
  have hct : ∀ w, w = ms_kc c → ms_ct w = 3 := by
    intro w h
    unfold ms_ct
    rw [if_neg (by omega), if_neg (by omega), if_neg (by omega), if_neg (by omega)]
  have hle := ms_tk_le (g := g) hk
  revert hle
  unfold ms_tk
  split
  · intro _
    constructor
    · intro h
      exact absurd h.1 (show ¬ ms_ct 39 = 3 by decide)
    · intro h
      have h : 39 = ms_kc c := h
      omega
  · rename_i hne
    have hc1 : ms_c g L k = g k := by
      unfold ms_c
      rw [if_pos (by omega)]
    split
    · intro _
      have h := ms_ky_is (g := g) (a := k) (b := ms_wd g L 16 k) 24 0
      constructor
      · rintro ⟨h1, _⟩
        have h1 : ms_ct (ms_ky g k (ms_wd g L 16 k) 24 0) = 3 := h1
        rcases ms_ct_ky (h.elim Or.inl (fun h => Or.inr (by omega))) with h' | h'
        · rw [h'.1] at h1
          exact absurd h1 (by decide)
        · rw [h'.1] at h1
          exact absurd h1 (by decide)
      · intro h2
        have h2 : ms_ky g k (ms_wd g L 16 k) 24 0 = ms_kc c := h2
        rcases h with h | h <;> omega
    · split
      · intro _
        constructor
        · intro h
          exact absurd h.1 (show ¬ ms_ct 37 = 3 by decide)
        · intro h
          have h : 37 = ms_kc c := h
          omega
      · split
        · intro _
          constructor
          · intro h
            exact absurd h.1 (show ¬ ms_ct 37 = 3 by decide)
          · intro h
            have h : 37 = ms_kc c := h
            omega
        · intro hle
          show ms_ct (ms_sg (ms_c g L k) (ms_c g L (k + 1))) = 3 ∧ mr_is g k (if (ms_c g L k = 60 ∨ ms_c g L k = 62) ∧ ms_c g L (k + 1) = 61 then k + 2 else k + 1) c ↔ ms_sg (ms_c g L k) (ms_c g L (k + 1)) = ms_kc c
          have hm : ∀ q : Prop, (ms_ct (ms_sg (ms_c g L k) (ms_c g L (k + 1))) = 3 ∧ q) ↔ q := fun q => ⟨fun h => h.2, fun h => ⟨ms_ct_sg, h⟩⟩
          rw [hm]
          rcases (by omega : (c = 40 ∨ c = 41 ∨ c = 42 ∨ c = 43 ∨ c = 44 ∨ c = 45 ∨ c = 50 ∨ c = 51 ∨ c = 52) ∨ (c = 47 ∨ c = 49) ∨ (c = 46 ∨ c = 48)) with h | h | h
          · rw [← ms_sg_1 c h, mr_is1 (by rcases h with rfl | rfl | rfl | rfl | rfl | rfl | rfl | rfl | rfl <;> rfl), hc1]
            constructor
            · rintro ⟨h1, h2⟩
              refine ⟨fun z => ?_, h2⟩
              rw [if_pos z] at h1
              omega
            · rintro ⟨h1, h2⟩
              rw [if_neg h1]
              exact ⟨by omega, h2⟩
          · rw [← ms_sg_2 c h, mr_is1 (by rcases h with rfl | rfl <;> rfl), hc1]
            constructor
            · rintro ⟨h1, h2⟩
              refine ⟨fun z => ?_, h2⟩
              rw [if_pos z] at h1
              omega
            · rintro ⟨h1, h2⟩
              rw [if_neg h1]
              exact ⟨by omega, h2⟩
          · rw [← ms_sg_3 c h, mr_is2 (by rcases h with rfl | rfl <;> rfl), hc1]
            constructor
            · rintro ⟨h1, h2, h3⟩
              by_cases z : (g k = 60 ∨ g k = 62) ∧ ms_c g L (k + 1) = 61
              · have hc2 : ms_c g L (k + 1) = g (k + 1) := by
                  unfold ms_c
                  rw [if_pos (ms_lt_L (P := fun c => c = 61) (by decide) z.2)]
                exact ⟨z, h2, hc2.trans h3⟩
              · rw [if_neg z] at h1
                omega
            · rintro ⟨z, h2, h3⟩
              have hc2 : ms_c g L (k + 1) = g (k + 1) := by
                unfold ms_c
                rw [if_pos (ms_lt_L (P := fun c => c = 61) (by decide) z.2)]
              rw [if_pos z]
              exact ⟨by omega, h2, hc2.symm.trans h3⟩
end
/-! the second object: what the constants and the table of keys need -/
def mr_KS (n : Nat) (f : Nat → mi_C) : Prop := n ≤ mi_SC ∧ (∀ c, c < mt_ns → ∃ fs, f (mi_SC + 1 + 2 * c) = .inr (17, fs)) ∧ ∃ ka g, 4 ≤ ka ∧ ka < mt_na ∧ f 508 = .inl (ka, 24, .inr (.inr (.inr (.inr g)))) ∧ ∀ j, j < 24 → g j = some (mi_SC + 1 + 2 * (16 + j))
theorem mr_KS.to {n : Nat} {f f' : Nat → mi_C} (h : mr_KS n f) (hf : ∀ q, q = 508 ∨ 574 ≤ q → f' q = f q) : mr_KS n f' := by
  obtain ⟨h1, h2, ka, g, h3, h4, h5, h6⟩ := h
  refine ⟨h1, fun c hc => ?_, ka, g, h3, h4, (hf _ (Or.inl rfl)).trans h5, h6⟩
  obtain ⟨fs, e⟩ := h2 c hc
  exact ⟨fs, (hf _ (Or.inr (by unfold mi_SC; omega))).trans e⟩
/-- the token that the second object is at -/
def mr_Tk (X : Nat → Int32) (Y : Nat → Int64) (I : Nat → Nat → Int32) (g : Nat → Int32) (L : Nat) (t : ms_T) : Prop := I 507 = g ∧ L ≤ 8192 ∧ X 2 = Int32.ofNat L ∧ X 8 = ms_ct t.k ∧ X 9 = Int32.ofNat t.a ∧ X 10 = Int32.ofNat t.b ∧ (t.k = 37 → Y 11 = t.v) ∧ ∃ k, k ≤ L ∧ t = ms_tk g L k
section
variable {d n sl : Nat} {f : Nat → mi_C} {X : Nat → Int32} {Y : Nat → Int64} {s : Value} {I : Nat → Nat → Int32} {J : Nat → Nat → Int64} {Q : (Option Value ⊕ Nat) → mi_H → Prop} {g : Nat → Int32} {L : Nat} {t : ms_T}
theorem mr_Tk.le (h : mr_Tk X Y I g L t) : t.a ≤ t.b ∧ t.b ≤ L ∧ L ≤ 8192 := by
  obtain ⟨_, h2, _, _, _, _, _, k, h3, rfl⟩ := h
  have := ms_tk_le (g := g) h3
  omega
theorem mi_cq_of {c : Nat} (hc : c < mt_ns) : mi_cq (mi_SC + 1 + 2 * c) ∧ (mi_SC + 1 + 2 * c - mi_SC - 1) / 2 = c := by
  have e : (mi_SC + 1 + 2 * c - mi_SC - 1) / 2 = c := by omega
  refine ⟨⟨by omega, by omega, ?_⟩, e⟩
  rw [e]
  exact hc
theorem sp_key {c : Nat} (hn : 575 ≤ n) (hB : mr_B f X Y s I J) (hK : mr_KS n f) (hT : mr_Tk X Y I g L t) (hc : 16 ≤ c ∧ c < 40) (k1 : t.k = ms_kc c → Q (.inl (some (.int 1))) (n, sl, f)) (k0 : ¬ t.k = ms_kc c → Q (.inl (some (.int 0))) (n, sl, f)) : mi_W (d + 1 + 1 + 1 + 1 + 1) 156 0 (mi_en 2 [.ref 505, .ref (mi_SC + 1 + 2 * c)]) [] (n, sl, f) Q := by
  have q505 := hB.1
  have hle := hT.le
  obtain ⟨e1, e2, e3, e4, e5, e6, e7, k, hk, et⟩ := hT
  have hcn : c < mt_ns := Nat.lt_trans hc.2 (by decide)
  obtain ⟨fs, hfs⟩ := hK.2.1 c hcn
  have hw := ms_tk_key (g := g) hk hc
  rw [← et] at hw
  refine b_156_0 _ _ _ (by first | assumption | (exact mL_get (by decide)) | (rw [mL_len]; decide) | (simp only [mL_set]; exact mL_get (by decide)) | (simp only [mL_set, mL_len]; decide) | (exact va_eq) | (exact (va_ne (by omega)).trans (by assumption)) | (exact (va_ne (by omega)).trans va_eq) | (exact (va_ne (by omega)).trans ((va_ne (by omega)).trans (by assumption))) | (exact (va_ne (by omega)).trans ((va_ne (by omega)).trans ((va_ne (by omega)).trans (by assumption)))) | rfl | (exact Or.inl rfl) | (exact Or.inr rfl) | omega | (exact Nat.le_of_ble_eq_true rfl) | decide | (exact ⟨by decide, rfl, by decide⟩)) (by first | assumption | (exact mL_get (by decide)) | (rw [mL_len]; decide) | (simp only [mL_set]; exact mL_get (by decide)) | (simp only [mL_set, mL_len]; decide) | (exact va_eq) | (exact (va_ne (by omega)).trans (by assumption)) | (exact (va_ne (by omega)).trans va_eq) | (exact (va_ne (by omega)).trans ((va_ne (by omega)).trans (by assumption))) | (exact (va_ne (by omega)).trans ((va_ne (by omega)).trans ((va_ne (by omega)).trans (by assumption)))) | rfl | (exact Or.inl rfl) | (exact Or.inr rfl) | omega | (exact Nat.le_of_ble_eq_true rfl) | decide | (exact ⟨by decide, rfl, by decide⟩)) (by first | assumption | (exact mL_get (by decide)) | (rw [mL_len]; decide) | (simp only [mL_set]; exact mL_get (by decide)) | (simp only [mL_set, mL_len]; decide) | (exact va_eq) | (exact (va_ne (by omega)).trans (by assumption)) | (exact (va_ne (by omega)).trans va_eq) | (exact (va_ne (by omega)).trans ((va_ne (by omega)).trans (by assumption))) | (exact (va_ne (by omega)).trans ((va_ne (by omega)).trans ((va_ne (by omega)).trans (by assumption)))) | rfl | (exact Or.inl rfl) | (exact Or.inr rfl) | omega | (exact Nat.le_of_ble_eq_true rfl) | decide | (exact ⟨by decide, rfl, by decide⟩)) ?_ ?_
  · intro z0
    refine b_156_20 _ _ _ ?_
    refine b_156_21 _ _ _ (by first | assumption | (exact mL_get (by decide)) | (rw [mL_len]; decide) | (simp only [mL_set]; exact mL_get (by decide)) | (simp only [mL_set, mL_len]; decide) | (exact va_eq) | (exact (va_ne (by omega)).trans (by assumption)) | (exact (va_ne (by omega)).trans va_eq) | (exact (va_ne (by omega)).trans ((va_ne (by omega)).trans (by assumption))) | (exact (va_ne (by omega)).trans ((va_ne (by omega)).trans ((va_ne (by omega)).trans (by assumption)))) | rfl | (exact Or.inl rfl) | (exact Or.inr rfl) | omega | (exact Nat.le_of_ble_eq_true rfl) | decide | (exact ⟨by decide, rfl, by decide⟩)) ?_
    refine k0 (fun z => ?_)
    first
      | (exact z0 (e4.trans (hw.mpr z).1))
      | (exact h (hw.mpr z).2)
  · intro z0
    refine b_156_8 _ _ _ (by first | assumption | (exact mL_get (by decide)) | (rw [mL_len]; decide) | (simp only [mL_set]; exact mL_get (by decide)) | (simp only [mL_set, mL_len]; decide) | (exact va_eq) | (exact (va_ne (by omega)).trans (by assumption)) | (exact (va_ne (by omega)).trans va_eq) | (exact (va_ne (by omega)).trans ((va_ne (by omega)).trans (by assumption))) | (exact (va_ne (by omega)).trans ((va_ne (by omega)).trans ((va_ne (by omega)).trans (by assumption)))) | rfl | (exact Or.inl rfl) | (exact Or.inr rfl) | omega | (exact Nat.le_of_ble_eq_true rfl) | decide | (exact ⟨by decide, rfl, by decide⟩)) (by first | assumption | (exact mL_get (by decide)) | (rw [mL_len]; decide) | (simp only [mL_set]; exact mL_get (by decide)) | (simp only [mL_set, mL_len]; decide) | (exact va_eq) | (exact (va_ne (by omega)).trans (by assumption)) | (exact (va_ne (by omega)).trans va_eq) | (exact (va_ne (by omega)).trans ((va_ne (by omega)).trans (by assumption))) | (exact (va_ne (by omega)).trans ((va_ne (by omega)).trans ((va_ne (by omega)).trans (by assumption)))) | rfl | (exact Or.inl rfl) | (exact Or.inr rfl) | omega | (exact Nat.le_of_ble_eq_true rfl) | decide | (exact ⟨by decide, rfl, by decide⟩)) ?_
    refine sp_is hn hK.1 hB (mi_cq_of hcn).1 (mi_cq_of hcn).2 hfs hle.1 (by omega) e5 e6 (fun h => ?_) (fun h => ?_)
    · rw [e1] at h
      refine b_156_13 _ _ _ ?_ ?_
      · intro z13
        first | (exact absurd z13 (by decide)) | (exact absurd (by decide) z13) | (exact absurd rfl z13) | (exact absurd z13 (of_nn (by omega))) | (exact absurd (of_np (by omega)) z13) | omega
      · intro z13
        refine b_156_16 _ _ _ ?_
        refine b_156_21 _ _ _ (by first | assumption | (exact mL_get (by decide)) | (rw [mL_len]; decide) | (simp only [mL_set]; exact mL_get (by decide)) | (simp only [mL_set, mL_len]; decide) | (exact va_eq) | (exact (va_ne (by omega)).trans (by assumption)) | (exact (va_ne (by omega)).trans va_eq) | (exact (va_ne (by omega)).trans ((va_ne (by omega)).trans (by assumption))) | (exact (va_ne (by omega)).trans ((va_ne (by omega)).trans ((va_ne (by omega)).trans (by assumption)))) | rfl | (exact Or.inl rfl) | (exact Or.inr rfl) | omega | (exact Nat.le_of_ble_eq_true rfl) | decide | (exact ⟨by decide, rfl, by decide⟩)) ?_
        exact k1 (hw.mp ⟨e4.symm.trans (Classical.not_not.mp z0), h⟩)
    · rw [e1] at h
      refine b_156_13 _ _ _ ?_ ?_
      · intro z13
        refine b_156_20 _ _ _ ?_
        refine b_156_21 _ _ _ (by first | assumption | (exact mL_get (by decide)) | (rw [mL_len]; decide) | (simp only [mL_set]; exact mL_get (by decide)) | (simp only [mL_set, mL_len]; decide) | (exact va_eq) | (exact (va_ne (by omega)).trans (by assumption)) | (exact (va_ne (by omega)).trans va_eq) | (exact (va_ne (by omega)).trans ((va_ne (by omega)).trans (by assumption))) | (exact (va_ne (by omega)).trans ((va_ne (by omega)).trans ((va_ne (by omega)).trans (by assumption)))) | rfl | (exact Or.inl rfl) | (exact Or.inr rfl) | omega | (exact Nat.le_of_ble_eq_true rfl) | decide | (exact ⟨by decide, rfl, by decide⟩)) ?_
        refine k0 (fun z => ?_)
        first
          | (exact z0 (e4.trans (hw.mpr z).1))
          | (exact h (hw.mpr z).2)
      · intro z13
        first | (exact absurd z13 (by decide)) | (exact absurd (by decide) z13) | (exact absurd rfl z13) | (exact absurd z13 (of_nn (by omega))) | (exact absurd (of_np (by omega)) z13) | omega
theorem sp_sign {c : Nat} (hn : 575 ≤ n) (hB : mr_B f X Y s I J) (hK : mr_KS n f) (hT : mr_Tk X Y I g L t) (hc : 40 ≤ c ∧ c < 53) (k1 : t.k = ms_kc c → Q (.inl (some (.int 1))) (n, sl, f)) (k0 : ¬ t.k = ms_kc c → Q (.inl (some (.int 0))) (n, sl, f)) : mi_W (d + 1 + 1 + 1 + 1 + 1) 153 0 (mi_en 2 [.ref 505, .ref (mi_SC + 1 + 2 * c)]) [] (n, sl, f) Q := by
  have q505 := hB.1
  have hle := hT.le
  obtain ⟨e1, e2, e3, e4, e5, e6, e7, k, hk, et⟩ := hT
  have hcn : c < mt_ns := Nat.lt_of_lt_of_le hc.2 (by decide)
  obtain ⟨fs, hfs⟩ := hK.2.1 c hcn
  have hw := ms_tk_sign (g := g) hk hc
  rw [← et] at hw
  refine b_153_0 _ _ _ (by first | assumption | (exact mL_get (by decide)) | (rw [mL_len]; decide) | (simp only [mL_set]; exact mL_get (by decide)) | (simp only [mL_set, mL_len]; decide) | (exact va_eq) | (exact (va_ne (by omega)).trans (by assumption)) | (exact (va_ne (by omega)).trans va_eq) | (exact (va_ne (by omega)).trans ((va_ne (by omega)).trans (by assumption))) | (exact (va_ne (by omega)).trans ((va_ne (by omega)).trans ((va_ne (by omega)).trans (by assumption)))) | rfl | (exact Or.inl rfl) | (exact Or.inr rfl) | omega | (exact Nat.le_of_ble_eq_true rfl) | decide | (exact ⟨by decide, rfl, by decide⟩)) (by first | assumption | (exact mL_get (by decide)) | (rw [mL_len]; decide) | (simp only [mL_set]; exact mL_get (by decide)) | (simp only [mL_set, mL_len]; decide) | (exact va_eq) | (exact (va_ne (by omega)).trans (by assumption)) | (exact (va_ne (by omega)).trans va_eq) | (exact (va_ne (by omega)).trans ((va_ne (by omega)).trans (by assumption))) | (exact (va_ne (by omega)).trans ((va_ne (by omega)).trans ((va_ne (by omega)).trans (by assumption)))) | rfl | (exact Or.inl rfl) | (exact Or.inr rfl) | omega | (exact Nat.le_of_ble_eq_true rfl) | decide | (exact ⟨by decide, rfl, by decide⟩)) (by first | assumption | (exact mL_get (by decide)) | (rw [mL_len]; decide) | (simp only [mL_set]; exact mL_get (by decide)) | (simp only [mL_set, mL_len]; decide) | (exact va_eq) | (exact (va_ne (by omega)).trans (by assumption)) | (exact (va_ne (by omega)).trans va_eq) | (exact (va_ne (by omega)).trans ((va_ne (by omega)).trans (by assumption))) | (exact (va_ne (by omega)).trans ((va_ne (by omega)).trans ((va_ne (by omega)).trans (by assumption)))) | rfl | (exact Or.inl rfl) | (exact Or.inr rfl) | omega | (exact Nat.le_of_ble_eq_true rfl) | decide | (exact ⟨by decide, rfl, by decide⟩)) ?_ ?_
  · intro z0
    refine b_153_20 _ _ _ ?_
    refine b_153_21 _ _ _ (by first | assumption | (exact mL_get (by decide)) | (rw [mL_len]; decide) | (simp only [mL_set]; exact mL_get (by decide)) | (simp only [mL_set, mL_len]; decide) | (exact va_eq) | (exact (va_ne (by omega)).trans (by assumption)) | (exact (va_ne (by omega)).trans va_eq) | (exact (va_ne (by omega)).trans ((va_ne (by omega)).trans (by assumption))) | (exact (va_ne (by omega)).trans ((va_ne (by omega)).trans ((va_ne (by omega)).trans (by assumption)))) | rfl | (exact Or.inl rfl) | (exact Or.inr rfl) | omega | (exact Nat.le_of_ble_eq_true rfl) | decide | (exact ⟨by decide, rfl, by decide⟩)) ?_
    refine k0 (fun z => ?_)
    first
      | (exact z0 (e4.trans (hw.mpr z).1))
      | (exact h (hw.mpr z).2)
  · intro z0
    refine b_153_8 _ _ _ (by first | assumption | (exact mL_get (by decide)) | (rw [mL_len]; decide) | (simp only [mL_set]; exact mL_get (by decide)) | (simp only [mL_set, mL_len]; decide) | (exact va_eq) | (exact (va_ne (by omega)).trans (by assumption)) | (exact (va_ne (by omega)).trans va_eq) | (exact (va_ne (by omega)).trans ((va_ne (by omega)).trans (by assumption))) | (exact (va_ne (by omega)).trans ((va_ne (by omega)).trans ((va_ne (by omega)).trans (by assumption)))) | rfl | (exact Or.inl rfl) | (exact Or.inr rfl) | omega | (exact Nat.le_of_ble_eq_true rfl) | decide | (exact ⟨by decide, rfl, by decide⟩)) (by first | assumption | (exact mL_get (by decide)) | (rw [mL_len]; decide) | (simp only [mL_set]; exact mL_get (by decide)) | (simp only [mL_set, mL_len]; decide) | (exact va_eq) | (exact (va_ne (by omega)).trans (by assumption)) | (exact (va_ne (by omega)).trans va_eq) | (exact (va_ne (by omega)).trans ((va_ne (by omega)).trans (by assumption))) | (exact (va_ne (by omega)).trans ((va_ne (by omega)).trans ((va_ne (by omega)).trans (by assumption)))) | rfl | (exact Or.inl rfl) | (exact Or.inr rfl) | omega | (exact Nat.le_of_ble_eq_true rfl) | decide | (exact ⟨by decide, rfl, by decide⟩)) ?_
    refine sp_is hn hK.1 hB (mi_cq_of hcn).1 (mi_cq_of hcn).2 hfs hle.1 (by omega) e5 e6 (fun h => ?_) (fun h => ?_)
    · rw [e1] at h
      refine b_153_13 _ _ _ ?_ ?_
      · intro z13
        first | (exact absurd z13 (by decide)) | (exact absurd (by decide) z13) | (exact absurd rfl z13) | (exact absurd z13 (of_nn (by omega))) | (exact absurd (of_np (by omega)) z13) | omega
      · intro z13
        refine b_153_16 _ _ _ ?_
        refine b_153_21 _ _ _ (by first | assumption | (exact mL_get (by decide)) | (rw [mL_len]; decide) | (simp only [mL_set]; exact mL_get (by decide)) | (simp only [mL_set, mL_len]; decide) | (exact va_eq) | (exact (va_ne (by omega)).trans (by assumption)) | (exact (va_ne (by omega)).trans va_eq) | (exact (va_ne (by omega)).trans ((va_ne (by omega)).trans (by assumption))) | (exact (va_ne (by omega)).trans ((va_ne (by omega)).trans ((va_ne (by omega)).trans (by assumption)))) | rfl | (exact Or.inl rfl) | (exact Or.inr rfl) | omega | (exact Nat.le_of_ble_eq_true rfl) | decide | (exact ⟨by decide, rfl, by decide⟩)) ?_
        exact k1 (hw.mp ⟨e4.symm.trans (Classical.not_not.mp z0), h⟩)
    · rw [e1] at h
      refine b_153_13 _ _ _ ?_ ?_
      · intro z13
        refine b_153_20 _ _ _ ?_
        refine b_153_21 _ _ _ (by first | assumption | (exact mL_get (by decide)) | (rw [mL_len]; decide) | (simp only [mL_set]; exact mL_get (by decide)) | (simp only [mL_set, mL_len]; decide) | (exact va_eq) | (exact (va_ne (by omega)).trans (by assumption)) | (exact (va_ne (by omega)).trans va_eq) | (exact (va_ne (by omega)).trans ((va_ne (by omega)).trans (by assumption))) | (exact (va_ne (by omega)).trans ((va_ne (by omega)).trans ((va_ne (by omega)).trans (by assumption)))) | rfl | (exact Or.inl rfl) | (exact Or.inr rfl) | omega | (exact Nat.le_of_ble_eq_true rfl) | decide | (exact ⟨by decide, rfl, by decide⟩)) ?_
        refine k0 (fun z => ?_)
        first
          | (exact z0 (e4.trans (hw.mpr z).1))
          | (exact h (hw.mpr z).2)
      · intro z13
        first | (exact absurd z13 (by decide)) | (exact absurd (by decide) z13) | (exact absurd rfl z13) | (exact absurd z13 (of_nn (by omega))) | (exact absurd (of_np (by omega)) z13) | omega
end
