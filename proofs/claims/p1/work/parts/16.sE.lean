theorem mi_v_r {ad : Nat → Nat} (q : Nat) : mi_v ad (.ref q) = .ref (ad q) := rfl
def mi_sE (y : Nat) (i : Instr) (pc : Nat) (ls : mi_L) (st : List Value) (h : mi_H) : Option (Nat × mi_L × List Value × mi_H) := match i with
  | .ldc2_w idx => match mt_l (mt_oc y) idx with
    | some v => some (pc + 3, ls, .long v :: st, h)
    | none => none
  | .ldc idx => match mt_s (mt_oc y) idx with
    | some n => some (pc + 2, ls, .ref (mi_SC + 1 + 2 * n) :: st, h)
    | none => none
  | .ldc_w idx => match mt_s (mt_oc y) idx with
    | some n => some (pc + 3, ls, .ref (mi_SC + 1 + 2 * n) :: st, h)
    | none => none
  | .getstatic idx => if mt_oc y = 17 ∧ idx = mt_si_COMPACT_STRINGS then some (pc + 3, ls, .int 1 :: st, h) else if mt_oc y = 17 ∧ idx = mt_si_fm then some (pc + 3, ls, .retAddr 0 :: st, h) else none
  | .getfield idx => match st with
    | .ref q :: r => if mt_oc y = 17 ∧ (mi_SC < q ∧ (q - mi_SC - 1) % 2 = 0 ∧ (q - mi_SC - 1) / 2 < mt_ns) then (if idx = mt_si_value then some (pc + 3, ls, .ref (q + 1) :: r, h) else if idx = mt_si_coder then some (pc + 3, ls, .int 0 :: r, h) else none) else none
    | _ => none
  | .baload => match st with
    | .int j :: .ref q :: r => if (mi_SC < q ∧ (q - mi_SC - 1) % 2 = 1 ∧ (q - mi_SC - 1) / 2 < mt_ns) ∧ ¬ (j < 0 ∨ mt_sl.getD ((q - mi_SC - 1) / 2) 0 ≤ j.toNatClampNeg) then some (pc + 1, ls, .int ((mt_sb.getD ((q - mi_SC - 1) / 2) []).getD j.toNatClampNeg 0) :: r, h) else none
    | _ => none
  | .arraylength => match st with
    | .ref q :: r => if mi_SC < q ∧ (q - mi_SC - 1) % 2 = 1 ∧ (q - mi_SC - 1) / 2 < mt_ns then some (pc + 1, ls, .int (Int32.ofNat (mt_sl.getD ((q - mi_SC - 1) / 2) 0)) :: r, h) else none
    | _ => none
  | .aastore => match st with
    | .ref v :: .int j :: .ref q :: r => match h.2.2 q with
      | .inl (5, n, .inr (.inr (.inr (.inr f)))) => if (q < h.1 ∧ mi_SC < v ∧ (v - mi_SC - 1) % 2 = 0 ∧ (v - mi_SC - 1) / 2 < mt_ns) ∧ ¬ (j < 0 ∨ n ≤ j.toNatClampNeg) then some (pc + 1, ls, r, (h.1, h.2.1, va_up h.2.2 q (.inl (5, n, .inr (.inr (.inr (.inr (va_up f j.toNatClampNeg (some v))))))))) else none
      | _ => none
    | _ => none
  | .invokespecial idx => match st with
    | .ref q :: r => if mt_oi.contains (mt_oc y, idx) = true ∧ (r.map fun v => v.category).sum ≤ 8 then some (pc + 3, ls, r, h) else none
    | _ => none
  | .invokestatic idx => match st with
    | .int n :: .int dp :: .ref a :: .int sp :: .ref a0 :: r => match h.2.2 a0, h.2.2 a with
      | .inl (3, n0, .inr (.inl f)), .inl (3, n1, .inr (.inl g)) => if (mt_ay.contains (mt_oc y, idx) = true ∧ a0 < h.1 ∧ a < h.1 ∧ (r.map fun v => v.category).sum ≤ 8) ∧ ¬ sp < 0 ∧ ¬ dp < 0 ∧ ¬ n < 0 ∧ sp.toNatClampNeg + n.toNatClampNeg ≤ n0 ∧ dp.toNatClampNeg + n.toNatClampNeg ≤ n1 then some (pc + 3, ls, r, (h.1, h.2.1, va_up h.2.2 a (.inl (3, n1, .inr (.inl (va_cpy f g sp.toNatClampNeg dp.toNatClampNeg n.toNatClampNeg)))))) else none
      | _, _ => none
    | _ => none
  | _ => none
section
variable {p : Program} {l : Launch} {e : Env} {R : Room} {s : State} {m : MethodId} {args : Array Value} {below : List Frame} {meth : Method} {c : Code} {H : Heap} {locs : List Loc} {cells slots : Nat} {Q : State → Prop}
variable {B d nL : Nat} {ad : Nat → Nat} {D : va_G} {cA : Nat → ClassId} {cc : ByteArray}
set_option maxHeartbeats 1000000 in
theorem mi_sE_ok {y : Nat} {i : Instr} {pc len pc' : Nat} {ls ls' : mi_L} {st st' : List Value} {h h' : mi_H} {lsR : Array Slot} (K : mi_Kx y cc p s m meth c nL) (hs : mi_sE y i pc ls st h = some (pc', ls', st', h')) (hd : decode cc pc = .ok (i, len)) (hln : mi_len i len = true) (L : mi_LR ad nL ls lsR) (I : mi_I B ad D cA h s H locs cells) (rm : mi_rm d h R cells slots)
    (kk : ∀ (lsR' : Array Slot) (H' : Heap) (locs' : List Loc) (cells' slots' : Nat), mi_I B ad D cA h' s H' locs' cells' → mi_LR ad nL ls' lsR' → mi_rm d h' R cells' slots' → W p l e R s m args below meth c H' locs' cells' slots' Q (F0 m pc' lsR' (st'.map (mi_v ad)))) : W p l e R s m args below meth c H locs cells slots Q (F0 m pc lsR (st.map (mi_v ad))) := by
  have hx := K.1
  have hb := K.2.1
  cases i with
  | ldc2_w idx =>
    obtain rfl : len = 3 := by simpa [mi_len] using hln
    simp only [mi_sE] at hs
    split at hs
    · rename_i v hv
      simp only [Option.some.injEq, Prod.mk.injEq] at hs; obtain ⟨rfl, rfl, rfl, rfl⟩ := hs
      exact lv_ldc2 hx hb K.own (I.tb args _ (mt_l_ok hv)) hd (kk _ _ _ _ _ I L rm)
    · cases hs
  | ldc idx =>
    obtain rfl : len = 2 := by simpa [mi_len] using hln
    simp only [mi_sE] at hs
    split at hs
    · rename_i n hn
      simp only [Option.some.injEq, Prod.mk.injEq] at hs; obtain ⟨rfl, rfl, rfl, rfl⟩ := hs
      obtain ⟨tx, hm⟩ := mt_s_ok hn
      have hz : vk_R (mt_cn (mt_oc y)) idx tx (ad (mi_SC + 1 + 2 * n)) s := I.fo.2.2.1 (mt_oc y, idx, n, tx) hm
      have hk := kk _ _ _ _ _ I L rm
      rw [List.map_cons, mi_v_r] at hk
      generalize ad (mi_SC + 1 + 2 * n) = q9 at hz hk
      exact va_ldcS hx hb K.own hz hd hk
    · cases hs
  | ldc_w idx =>
    obtain rfl : len = 3 := by simpa [mi_len] using hln
    simp only [mi_sE] at hs
    split at hs
    · rename_i n hn
      simp only [Option.some.injEq, Prod.mk.injEq] at hs; obtain ⟨rfl, rfl, rfl, rfl⟩ := hs
      obtain ⟨tx, hm⟩ := mt_s_ok hn
      have hz : vk_R (mt_cn (mt_oc y)) idx tx (ad (mi_SC + 1 + 2 * n)) s := I.fo.2.2.1 (mt_oc y, idx, n, tx) hm
      have hk := kk _ _ _ _ _ I L rm
      rw [List.map_cons, mi_v_r] at hk
      generalize ad (mi_SC + 1 + 2 * n) = q9 at hz hk
      exact mi_ldcwS hx hb K.own hz hd hk
    · cases hs
  | getstatic idx =>
    obtain rfl : len = 3 := by simpa [mi_len] using hln
    simp only [mi_sE] at hs
    have hown := K.own
    split at hs
    · rename_i hg
      obtain ⟨hy, rfl⟩ := hg
      rw [hy] at hown
      simp only [Option.some.injEq, Prod.mk.injEq] at hs; obtain ⟨rfl, rfl, rfl, rfl⟩ := hs
      exact va_gets hx hb I.fo.2.2.2.1 I.S hown (I.tb args _ mt_sf_COMPACT_STRINGS) (fun _ z => z) hd (kk _ _ _ _ _ I L rm)
    · split at hs
      · rename_i hg
        obtain ⟨hy, rfl⟩ := hg
        rw [hy] at hown
        simp only [Option.some.injEq, Prod.mk.injEq] at hs; obtain ⟨rfl, rfl, rfl, rfl⟩ := hs
        exact va_gets hx hb I.fo.2.2.2.2.1 I.S hown (I.tb args _ mt_sf_fm) (fun _ z => z) hd (kk _ _ _ _ _ I L rm)
      · cases hs
  | getfield idx =>
    obtain rfl : len = 3 := by simpa [mi_len] using hln
    simp only [mi_sE] at hs
    have hown := K.own
    split at hs
    · rename_i q r
      split at hs
      · rename_i hg
        obtain ⟨hy, hq⟩ := hg
        rw [hy] at hown
        obtain ⟨n, rfl, hn⟩ := mi_q0 hq
        obtain ⟨z1, z2, z3, z4⟩ := I.fo.2.1 n hn
        split at hs
        · rename_i hi
          subst hi
          simp only [Option.some.injEq, Prod.mk.injEq] at hs; obtain ⟨rfl, rfl, rfl, rfl⟩ := hs
          have hk := kk _ _ _ _ _ I L rm
          rw [List.map_cons, mi_v_r] at hk
          rw [List.map_cons, mi_v_r]
          have e9 : mi_SC + 1 + 2 * n + 1 = mi_SC + 2 + 2 * n := by omega
          rw [e9] at hk
          generalize ad (mi_SC + 2 + 2 * n) = q8 at z3 hk
          generalize ad (mi_SC + 1 + 2 * n) = q9 at z3 ⊢
          exact vk_getf hx hb z3 I.S hown (I.tb args _ mt_sf_value) (fun _ z => z) hd hk
        · split at hs
          · rename_i hi
            subst hi
            simp only [Option.some.injEq, Prod.mk.injEq] at hs; obtain ⟨rfl, rfl, rfl, rfl⟩ := hs
            have hk := kk _ _ _ _ _ I L rm
            rw [List.map_cons] at hk
            rw [List.map_cons, mi_v_r]
            generalize ad (mi_SC + 1 + 2 * n) = q9 at z2 ⊢
            exact vk_getf hx hb z2 I.S hown (I.tb args _ mt_sf_coder) (fun _ z => z) hd hk
          · cases hs
      · cases hs
    · cases hs
  | baload =>
    obtain rfl : len = 1 := by simpa [mi_len] using hln
    simp only [mi_sE] at hs
    split at hs
    · rename_i j q r
      split at hs
      · rename_i hg
        obtain ⟨hq, hin⟩ := hg
        simp only [Option.some.injEq, Prod.mk.injEq] at hs; obtain ⟨rfl, rfl, rfl, rfl⟩ := hs
        obtain ⟨n, rfl, hn, he⟩ := mi_q1 hq
        rw [he] at hin kk
        obtain ⟨z1, z2, z3, z4⟩ := I.fo.2.1 n hn
        have hk := kk _ _ _ _ _ I L rm
        rw [List.map_cons] at hk
        rw [List.map_cons, List.map_cons, mi_v_r]
        generalize ad (mi_SC + 2 + 2 * n) = q9 at z4 ⊢
        exact va_tb hx hb z4 I.S hin rfl hd hk
      · cases hs
    · cases hs
  | arraylength =>
    obtain rfl : len = 1 := by simpa [mi_len] using hln
    simp only [mi_sE] at hs
    split at hs
    · rename_i q r
      split at hs
      · rename_i hq
        simp only [Option.some.injEq, Prod.mk.injEq] at hs; obtain ⟨rfl, rfl, rfl, rfl⟩ := hs
        obtain ⟨n, rfl, hn, he⟩ := mi_q1 hq
        rw [he] at kk
        obtain ⟨z1, z2, z3, z4⟩ := I.fo.2.1 n hn
        have hk := kk _ _ _ _ _ I L rm
        rw [List.map_cons] at hk
        rw [List.map_cons, mi_v_r]
        generalize ad (mi_SC + 2 + 2 * n) = q9 at z4 ⊢
        exact va_tlen hx hb z4 I.S rfl hd hk
      · cases hs
    · cases hs
  | aastore =>
    obtain rfl : len = 1 := by simpa [mi_len] using hln
    simp only [mi_sE] at hs
    split at hs
    · rename_i v j q r
      split at hs
      · rename_i n f hc
        split at hs
        · rename_i hg
          obtain ⟨⟨hq, hv⟩, hin⟩ := hg
          simp only [Option.some.injEq, Prod.mk.injEq] at hs; obtain ⟨rfl, rfl, rfl, rfl⟩ := hs
          obtain ⟨n9, rfl, hn⟩ := mi_q0 hv
          obtain ⟨z1, z2, z3, z4⟩ := I.fo.2.1 n9 hn
          rw [List.map_cons, List.map_cons, List.map_cons, mi_v_ref I hq, mi_v_r]
          refine va_astqM hx hb I.K I.P mi_ws_D I.S q 5 (f := fun j => (f j).map ad) ((mi_ws_get hq).trans (by rw [hc]; rfl)) (mi_ty_get (by decide)) (mi_any I z1) hin hd (fun H1 locs1 hP1 _ hS1 => ?_)
          have hP2 : va_P D mt_cl (mi_ws B ad cA h.1 (va_up h.2.2 q (.inl (5, n, .inr (.inr (.inr (.inr (va_up f j.toNatClampNeg (some (mi_SC + 1 + 2 * n9)))))))))) H1 := by
            rw [← mi_ws_set hq]
            have e1 : mi_c ad cA (.inl (5, n, .inr (.inr (.inr (.inr (va_up f j.toNatClampNeg (some (mi_SC + 1 + 2 * n9)))))))) = .inl (cA 5, n, .inr (.inr (.inr (.inr (va_up (fun j => (f j).map ad) j.toNatClampNeg (some (ad (mi_SC + 1 + 2 * n9)))))))) := by
              show Sum.inl (cA 5, n, Sum.inr (Sum.inr (Sum.inr (Sum.inr (fun i => (va_up f j.toNatClampNeg (some (mi_SC + 1 + 2 * n9)) i).map ad))))) = _
              congr 7
              funext i
              unfold va_up
              split
              · rfl
              · rfl
            rw [e1]; exact hP1
          exact kk _ _ _ _ _ (I.upd hq hP2 hS1) L rm
        · cases hs
      · cases hs
    · cases hs
  | invokespecial idx =>
    obtain rfl : len = 3 := by simpa [mi_len] using hln
    simp only [mi_sE] at hs
    split at hs
    · rename_i q r
      split at hs
      · rename_i hg
        simp only [Option.some.injEq, Prod.mk.injEq] at hs; obtain ⟨rfl, rfl, rfl, rfl⟩ := hs
        have hm := mt_oi_ok _ (List.contains_iff_mem.mp hg.1)
        refine W.objInit hx hb K.own (I.tb args _ hm) (I.tb args _ mt_oi1) (I.tb args _ mt_oi2) (g := F0 m pc lsR ((.ref q :: r).map (mi_v ad))) rfl (L.2.1.trans K.2.2.2.1.symm) rfl hd (by have := rm.1; omega) ?_ (kk _ _ _ _ _ I L rm)
        show 2 * 0 + ((r.map (mi_v ad)).map fun v => v.category).sum + 12 ≤ R.locals
        rw [mi_cats]
        have := rm.2.1
        have := hg.2
        omega
      · cases hs
    · cases hs
  | invokestatic idx =>
    obtain rfl : len = 3 := by simpa [mi_len] using hln
    simp only [mi_sE] at hs
    split at hs
    · rename_i n dp a sp a0 r
      split at hs
      · rename_i n0 f n1 g hc0 hc1
        split at hs
        · rename_i hg
          obtain ⟨⟨hay, ha0, ha, hw⟩, g1, g2, g3, g4, g5⟩ := hg
          simp only [Option.some.injEq, Prod.mk.injEq] at hs; obtain ⟨rfl, rfl, rfl, rfl⟩ := hs
          have hm := mt_ay_ok _ (List.contains_iff_mem.mp hay)
          simp only [List.map_cons, mi_v_ref I ha, mi_v_ref I ha0]
          refine va_copyl hx hb (L.2.1.trans K.2.2.2.1.symm).symm K.own (I.tb args _ hm) (I.tb args _ mt_ay1) (I.tb args _ mt_ay2) (I.tb args _ mt_ay3) I.K I.P mi_ws_D I.S a0 a 3 3 ((mi_ws_get ha0).trans (by rw [hc0]; rfl)) ((mi_ws_get ha).trans (by rw [hc1]; rfl)) (mi_ty_get (by decide)) (mi_ty_get (by decide)) rfl g1 g2 g3 g4 g5 (fun _ _ => rfl) (by have := rm.1; omega) ?_ hd (fun H1 locs1 hP1 _ hS1 => ?_)
          · rw [mi_cats]
            have := rm.2.1
            have e9 : nativeFrameWords "java/lang/System" "arraycopy" 5 ≤ 100 := by decide +kernel
            omega
          · have hP2 : va_P D mt_cl (mi_ws B ad cA h.1 (va_up h.2.2 a (.inl (3, n1, .inr (.inl (va_cpy f g sp.toNatClampNeg dp.toNatClampNeg n.toNatClampNeg)))))) H1 := by
              rw [← mi_ws_set ha]; exact hP1
            exact kk _ _ _ _ _ (I.upd ha hP2 hS1) L rm
        · cases hs
      · cases hs
    · cases hs
  | _ => exact absurd hs (by simp [mi_sE])
end
