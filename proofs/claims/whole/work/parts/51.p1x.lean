theorem mp_ix4 {p t : Int32} (hp : mp_r p 0 7) (ht : mp_r t 0 3) : (∃ i, mi_ix (p * 4 + t) 32 i) ∧ ∃ i, mi_ix (4 * p + t) 32 i := by
  unfold mp_r at hp ht
  have h1 : p = 0 ∨ p = 1 ∨ p = 2 ∨ p = 3 ∨ p = 4 ∨ p = 5 ∨ p = 6 ∨ p = 7 := by
    have e := hp
    rw [Int32.lt_iff_toInt_lt, Int32.lt_iff_toInt_lt, show (0 : Int32).toInt = 0 from rfl, show (7 : Int32).toInt = 7 from rfl] at e
    simp only [← Int32.toInt_inj, show (0 : Int32).toInt = 0 from rfl, show (1 : Int32).toInt = 1 from rfl, show (2 : Int32).toInt = 2 from rfl, show (3 : Int32).toInt = 3 from rfl, show (4 : Int32).toInt = 4 from rfl, show (5 : Int32).toInt = 5 from rfl, show (6 : Int32).toInt = 6 from rfl, show (7 : Int32).toInt = 7 from rfl]
    omega
  have h2 : t = 0 ∨ t = 1 ∨ t = 2 ∨ t = 3 := by
    have e := ht
    rw [Int32.lt_iff_toInt_lt, Int32.lt_iff_toInt_lt, show (0 : Int32).toInt = 0 from rfl, show (3 : Int32).toInt = 3 from rfl] at e
    simp only [← Int32.toInt_inj, show (0 : Int32).toInt = 0 from rfl, show (1 : Int32).toInt = 1 from rfl, show (2 : Int32).toInt = 2 from rfl, show (3 : Int32).toInt = 3 from rfl]
    omega
  rcases h1 with rfl | rfl | rfl | rfl | rfl | rfl | rfl | rfl <;> rcases h2 with rfl | rfl | rfl | rfl <;> exact ⟨⟨_, by decide, rfl, by decide⟩, ⟨_, by decide, rfl, by decide⟩⟩
def mp_V (p t : Int32) (a : Int64) : Prop := mp_r p 0 7 ∧ mp_r t 0 3 ∧ 0 ≤ a ∧ a ≤ 2305843009213693952
