theorem mi_goal : mi_Goal := fun L xs hL => by
  obtain ⟨n, o, h', h1, h2⟩ := mp_main (xs := xs) hL
  subst h2
  exact ⟨n, h', h1⟩
theorem i_vc : Claimed_1_1 ∧ Claimed_1_2 := i_vc_of mi_goal
