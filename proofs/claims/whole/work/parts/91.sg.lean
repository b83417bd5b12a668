/-! a constant's length, and its octets -/
section
variable {d n sl q : Nat} {f : Nat → mi_C} {Q : (Option Value ⊕ Nat) → mi_H → Prop} {fs : List Value}
theorem st_cod (hq : mi_cq q) (hn : n ≤ mi_SC) (K : Q (.inl (some (.int 0))) (n, sl, f)) : mi_W d 149 0 (mi_en 1 [.ref q]) [] (n, sl, f) Q := by
  refine w_getstaticC cd_149_0 rfl ?_
  refine w_ifeq cd_149_3 (t := 13) (by decide) (fun z => absurd z (by decide)) (fun _ => ?_)
  refine w_aload_n cd_149_6 rfl ?_
  refine w_getfieldK cd_149_7 rfl hq hn ?_
  refine w_goto cd_149_10 (t := 14) (by decide) ?_
  exact mi_W.e cd_149_14 rfl (by decide +kernel) K
theorem st_sh : ∀ c, c < mt_ns → (Int32.ofNat (mt_sl.getD c 0) >>> ((0 : Int32) &&& 31)) = Int32.ofNat (mt_sl.getD c 0) := by decide +kernel
theorem st_len (hq : mi_cq q) (hn : n ≤ mi_SC) (hf : f q = .inr (17, fs)) (K : Q (.inl (some (.int (Int32.ofNat (mt_sl.getD ((q - mi_SC - 1) / 2) 0))))) (n, sl, f)) : mi_W (d + 1) 148 0 (mi_en 1 [.ref q]) [] (n, sl, f) Q := by
  obtain ⟨hr, he⟩ := mi_cr.of hq
  refine w_aload_n cd_148_0 rfl ?_
  refine w_getfieldV cd_148_1 rfl hq hn ?_
  refine w_arraylengthT cd_148_4 hr hn ?_
  rw [he]
  refine w_aload_n cd_148_5 rfl ?_
  refine w_invokevirtual cd_148_6 (show mt_m 17 335 = some (149, 0) by decide +kernel) (rest := [.int (Int32.ofNat (mt_sl.getD ((q - mi_SC - 1) / 2) 0))]) rfl (as := [.ref q]) rfl hf (Or.inr ⟨hq.1, hq.2.2⟩) ⟨Nat.le_of_ble_eq_true rfl, Nat.le_of_ble_eq_true rfl, Nat.le_of_ble_eq_true rfl⟩ ?_
  refine st_cod hq hn ?_
  refine w_ishr cd_148_9 ?_
  rw [st_sh _ hq.2.2]
  exact w_ireturn_i cd_148_10 (by decide +kernel) K
end
