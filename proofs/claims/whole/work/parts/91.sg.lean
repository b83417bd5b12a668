/-! a constant's length, and its octets -/
section
variable {d n sl q : Nat} {f : Nat → mi_C} {Q : (Option Value ⊕ Nat) → mi_H → Prop} {fs : List Value}
theorem st_cod (hq : mi_cq q) (hn : n ≤ mi_SC) (K : Q (.inl (some (.int 0))) (n, sl, f)) : mi_W d 151 0 (mi_en 1 [.ref q]) [] (n, sl, f) Q := by
  refine w_getstaticC cd_151_0 rfl ?_
  refine w_ifeq cd_151_3 (t := 13) (by decide) (fun z => absurd z (by decide)) (fun _ => ?_)
  refine w_aload_n cd_151_6 rfl ?_
  refine w_getfieldK cd_151_7 rfl hq hn ?_
  refine w_goto cd_151_10 (t := 14) (by decide) ?_
  exact mi_W.e cd_151_14 rfl (by decide +kernel) K
theorem st_sh : ∀ c, c < mt_ns → (Int32.ofNat (mt_sl.getD c 0) >>> ((0 : Int32) &&& 31)) = Int32.ofNat (mt_sl.getD c 0) := by decide +kernel
theorem st_len (hq : mi_cq q) (hn : n ≤ mi_SC) (hf : f q = .inr (17, fs)) (K : Q (.inl (some (.int (Int32.ofNat (mt_sl.getD ((q - mi_SC - 1) / 2) 0))))) (n, sl, f)) : mi_W (d + 1) 150 0 (mi_en 1 [.ref q]) [] (n, sl, f) Q := by
  obtain ⟨hr, he⟩ := mi_cr.of hq
  refine w_aload_n cd_150_0 rfl ?_
  refine w_getfieldV cd_150_1 rfl hq hn ?_
  refine w_arraylengthT cd_150_4 hr hn ?_
  rw [he]
  refine w_aload_n cd_150_5 rfl ?_
  refine w_invokevirtual cd_150_6 (show mt_m 17 335 = some (151, 0) by decide +kernel) (rest := [.int (Int32.ofNat (mt_sl.getD ((q - mi_SC - 1) / 2) 0))]) rfl (as := [.ref q]) rfl hf (Or.inr ⟨hq.1, hq.2.2⟩) ⟨Nat.le_of_ble_eq_true rfl, Nat.le_of_ble_eq_true rfl, Nat.le_of_ble_eq_true rfl⟩ ?_
  refine st_cod hq hn ?_
  refine w_ishr cd_150_9 ?_
  rw [st_sh _ hq.2.2]
  exact w_ireturn_i cd_150_10 (by decide +kernel) K
def st_v (c k : Nat) : Int32 := (mt_sb.getD c []).getD k 0
theorem st_ch : ∀ c, c < mt_ns → ∀ k, k < mt_sl.getD c 0 → ((st_v c k &&& 255).toUInt32 % 65536).toInt32 = st_v c k ∧ (st_v c k).toUInt32.toUInt16.toUInt32.toInt32 = st_v c k := by decide +kernel
theorem st_sl : ∀ c, c < mt_ns → mt_sl.getD c 0 ≤ 192 := by decide +kernel
theorem st_lat (hq : mi_cq q) (hn : n ≤ mi_SC) (K : Q (.inl (some (.int 1))) (n, sl, f)) : mi_W d 30 0 (mi_en 1 [.ref q]) [] (n, sl, f) Q := by
  refine w_getstaticC cd_30_0 rfl ?_
  refine w_ifeq cd_30_3 (t := 17) (by decide) (fun z => absurd z (by decide)) (fun _ => ?_)
  refine w_aload_n cd_30_6 rfl ?_
  refine w_getfieldK cd_30_7 rfl hq hn ?_
  refine w_ifne cd_30_10 (t := 17) (by decide) (fun z => absurd rfl z) (fun _ => ?_)
  refine w_iconst cd_30_13 (v := 1) rfl ?_
  refine w_goto cd_30_14 (t := 18) (by decide) ?_
  exact w_ireturn_z cd_30_18 (by decide +kernel) (Or.inr rfl) K
theorem st_pck {k L : Nat} {g : Value} (hg : g = .retAddr 0) (hk : k < L) (hL : L ≤ 192) (K : Q (.inl (some (.int (Int32.ofNat k)))) (n, sl, f)) : mi_W d 33 0 (mi_en 3 [.int (Int32.ofNat k), .int (Int32.ofNat L), g]) [] (n, sl, f) Q := by
  subst hg
  refine w_iload_n cd_33_0 rfl ?_
  refine w_iflt cd_33_1 (t := 9) (by decide) (fun z => ?_) (fun _ => ?_)
  · have := (of_lt (a := k) (b := 0) (by omega) (by omega)).mp z
    omega
  · refine w_iload_n cd_33_4 rfl ?_
    refine w_iload_n cd_33_5 rfl ?_
    refine w_if_icmplt cd_33_6 (t := 16) (by decide) (fun _ => ?_) (fun z => ?_)
    · refine w_iload_n cd_33_16 rfl ?_
      exact w_ireturn_i cd_33_17 (by decide +kernel) K
    · exact absurd ((of_lt (by omega) (by omega)).mpr hk) z
theorem st_chk {k L : Nat} (hk : k < L) (hL : L ≤ 192) (K : Q (.inl none) (n, sl, f)) : mi_W (d + 1) 32 0 (mi_en 2 [.int (Int32.ofNat k), .int (Int32.ofNat L)]) [] (n, sl, f) Q := by
  refine w_iload_n cd_32_0 rfl ?_
  refine w_iload_n cd_32_1 rfl ?_
  refine w_getstaticF cd_32_2 rfl ?_
  refine w_invokestatic cd_32_5 (show mt_m 17 1059 = some (33, 4) by decide +kernel) (by decide) (rest := []) rfl (as := [.int (Int32.ofNat k), .int (Int32.ofNat L), .retAddr 0]) rfl ⟨Nat.le_of_ble_eq_true rfl, Nat.le_of_ble_eq_true rfl, Nat.le_of_ble_eq_true rfl⟩ ?_
  refine st_pck rfl hk hL ?_
  refine w_pop_i cd_32_8 ?_
  exact w_return cd_32_9 (by decide +kernel) K
theorem st_slc {k : Nat} (hq : mi_cq q) (hn : n ≤ mi_SC) (hk : k < mt_sl.getD ((q - mi_SC - 1) / 2) 0) (K : Q (.inl (some (.int (st_v ((q - mi_SC - 1) / 2) k)))) (n, sl, f)) : mi_W (d + 1 + 1) 31 0 (mi_en 2 [.ref (q + 1), .int (Int32.ofNat k)]) [] (n, sl, f) Q := by
  obtain ⟨hr, he⟩ := mi_cr.of hq
  have hL := st_sl _ hq.2.2
  have hv := st_ch _ hq.2.2 k hk
  have hx := ix_of (w := k) (m := mt_sl.getD ((q - mi_SC - 1) / 2) 0) hk (by omega)
  refine w_iload_n cd_31_0 rfl ?_
  refine w_aload_n cd_31_1 rfl ?_
  refine w_arraylengthT cd_31_2 hr hn ?_
  rw [he]
  refine w_invokestatic cd_31_3 (show mt_m 21 9 = some (32, 4) by decide +kernel) (by decide) (rest := []) rfl (as := [.int (Int32.ofNat k), .int (Int32.ofNat (mt_sl.getD ((q - mi_SC - 1) / 2) 0))]) rfl ⟨Nat.le_of_ble_eq_true rfl, Nat.le_of_ble_eq_true rfl, Nat.le_of_ble_eq_true rfl⟩ ?_
  refine st_chk hk hL ?_
  refine w_aload_n cd_31_6 rfl ?_
  refine w_iload_n cd_31_7 rfl ?_
  refine w_baloadT cd_31_8 hr ?_ hn ?_
  · rw [he]
    exact hx.ok
  · rw [he, hx.2.1]
    refine w_sipush cd_31_9 (v := 255) rfl ?_
    refine w_iand cd_31_12 ?_
    refine w_i2c cd_31_13 ?_
    have e : ((((mt_sb.getD ((q - mi_SC - 1) / 2) []).getD k 0) &&& 255).toUInt32 % 65536).toInt32 = st_v ((q - mi_SC - 1) / 2) k := hv.1
    rw [e]
    refine mi_W.e cd_31_14 rfl ?_ K
    rw [show mt_rt 31 = some .char by decide +kernel]
    exact if_pos hv.2
theorem st_chr {k : Nat} (hq : mi_cq q) (hn : n ≤ mi_SC) (hf : f q = .inr (17, fs)) (hk : k < mt_sl.getD ((q - mi_SC - 1) / 2) 0) (K : Q (.inl (some (.int (st_v ((q - mi_SC - 1) / 2) k)))) (n, sl, f)) : mi_W (d + 1 + 1 + 1) 29 0 (mi_en 2 [.ref q, .int (Int32.ofNat k)]) [] (n, sl, f) Q := by
  have hv := st_ch _ hq.2.2 k hk
  refine w_aload_n cd_29_0 rfl ?_
  refine w_invokevirtual cd_29_1 (show mt_m 17 492 = some (30, 0) by decide +kernel) (rest := []) rfl (as := [.ref q]) rfl hf (Or.inr ⟨hq.1, hq.2.2⟩) ⟨Nat.le_of_ble_eq_true rfl, Nat.le_of_ble_eq_true rfl, Nat.le_of_ble_eq_true rfl⟩ ?_
  refine st_lat hq hn ?_
  refine w_ifeq cd_29_4 (t := 16) (by decide) (fun z => absurd z (by decide)) (fun _ => ?_)
  refine w_aload_n cd_29_7 rfl ?_
  refine w_getfieldV cd_29_8 rfl hq hn ?_
  refine w_iload_n cd_29_11 rfl ?_
  refine w_invokestatic cd_29_12 (show mt_m 17 495 = some (31, 4) by decide +kernel) (by decide) (rest := []) rfl (as := [.ref (q + 1), .int (Int32.ofNat k)]) rfl ⟨Nat.le_of_ble_eq_true rfl, Nat.le_of_ble_eq_true rfl, Nat.le_of_ble_eq_true rfl⟩ ?_
  refine st_slc hq hn hk ?_
  refine mi_W.e cd_29_15 rfl ?_ K
  rw [show mt_rt 29 = some .char by decide +kernel]
  exact if_pos hv.2
end
