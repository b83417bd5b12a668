def mi_sD (y : Nat) (i : Instr) (pc : Nat) (ls : mi_L) (st : List Value) (h : mi_H) : Option (Nat × mi_L × List Value × mi_H) := match i with
  | .getfield idx => match st with
    | .ref q :: r => match mt_f (mt_oc y) idx, h.2.2 q with
      | some (ci, k), .inr (cj, fs) => if q < h.1 ∧ cj = ci then match fs[k]? with
          | some v => some (pc + 3, ls, v :: r, h)
          | none => none
        else none
      | _, _ => none
    | _ => none
  | .putfield idx => match st with
    | v :: .ref q :: r => match mt_f (mt_oc y) idx, h.2.2 q with
      | some (ci, k), .inr (cj, fs) => if q < h.1 ∧ cj = ci ∧ k < fs.length ∧ mi_fk (mt_ft ci k) v = true ∧ (mt_fn ci k = false ∨ mt_in y ci = true) then some (pc + 3, ls, r, (h.1, h.2.1, va_up h.2.2 q (.inr (ci, fs.set k v)))) else none
      | _, _ => none
    | _ => none
  | .iaload => match st with
    | .int j :: .ref q :: r => match h.2.2 q with
      | .inl (0, n, .inl f) => if (q < h.1 ∨ q = mi_SC) ∧ ¬ (j < 0 ∨ n ≤ j.toNatClampNeg) then some (pc + 1, ls, .int (f j.toNatClampNeg) :: r, h) else none
      | _ => none
    | _ => none
  | .baload => match st with
    | .int j :: .ref q :: r => match h.2.2 q with
      | .inl (1, n, .inl f) => if q < h.1 ∧ ¬ (j < 0 ∨ n ≤ j.toNatClampNeg) then some (pc + 1, ls, .int (f j.toNatClampNeg) :: r, h) else none
      | .inl (2, n, .inl f) => if q < h.1 ∧ ¬ (j < 0 ∨ n ≤ j.toNatClampNeg) then some (pc + 1, ls, .int (f j.toNatClampNeg) :: r, h) else none
      | _ => none
    | _ => none
  | .laload => match st with
    | .int j :: .ref q :: r => match h.2.2 q with
      | .inl (3, n, .inr (.inl f)) => if q < h.1 ∧ ¬ (j < 0 ∨ n ≤ j.toNatClampNeg) then some (pc + 1, ls, .long (f j.toNatClampNeg) :: r, h) else none
      | _ => none
    | _ => none
  | .iastore => match st with
    | .int x :: .int j :: .ref q :: r => match h.2.2 q with
      | .inl (0, n, .inl f) => if q < h.1 ∧ ¬ (j < 0 ∨ n ≤ j.toNatClampNeg) then some (pc + 1, ls, r, (h.1, h.2.1, va_up h.2.2 q (.inl (0, n, .inl (upd f j.toNatClampNeg x))))) else none
      | _ => none
    | _ => none
  | .bastore => match st with
    | .int x :: .int j :: .ref q :: r => match h.2.2 q with
      | .inl (1, n, .inl f) => if q < h.1 ∧ ¬ (j < 0 ∨ n ≤ j.toNatClampNeg) then some (pc + 1, ls, r, (h.1, h.2.1, va_up h.2.2 q (.inl (1, n, .inl (upd f j.toNatClampNeg (vp_nar .byte x)))))) else none
      | .inl (2, n, .inl f) => if q < h.1 ∧ ¬ (j < 0 ∨ n ≤ j.toNatClampNeg) then some (pc + 1, ls, r, (h.1, h.2.1, va_up h.2.2 q (.inl (2, n, .inl (upd f j.toNatClampNeg (vp_nar .boolean x)))))) else none
      | _ => none
    | _ => none
  | .lastore => match st with
    | .long x :: .int j :: .ref q :: r => match h.2.2 q with
      | .inl (3, n, .inr (.inl f)) => if q < h.1 ∧ ¬ (j < 0 ∨ n ≤ j.toNatClampNeg) then some (pc + 1, ls, r, (h.1, h.2.1, va_up h.2.2 q (.inl (3, n, .inr (.inl (vp_updL f j.toNatClampNeg x)))))) else none
      | _ => none
    | _ => none
  | .aaload => match st with
    | .int j :: .ref q :: r => match h.2.2 q with
      | .inl (k, n, .inr (.inr (.inr (.inr f)))) => if (q < h.1 ∧ 4 ≤ k ∧ k < mt_na) ∧ ¬ (j < 0 ∨ n ≤ j.toNatClampNeg) then some (pc + 1, ls, va_rf (f j.toNatClampNeg) :: r, h) else none
      | _ => none
    | _ => none
  | .aastore => match st with
    | .ref v :: .int j :: .ref q :: r => match h.2.2 q, h.2.2 v with
      | .inl (k, n, .inr (.inr (.inr (.inr f)))), .inr (ci, fs) => if (q < h.1 ∧ v < h.1 ∧ mt_ac k = some ci) ∧ ¬ (j < 0 ∨ n ≤ j.toNatClampNeg) then some (pc + 1, ls, r, (h.1, h.2.1, va_up h.2.2 q (.inl (k, n, .inr (.inr (.inr (.inr (va_up f j.toNatClampNeg (some v))))))))) else none
      | _, _ => none
    | _ => none
  | .arraylength => match st with
    | .ref q :: r => match h.2.2 q with
      | .inl (k, n, a) => if q < h.1 ∧ k < mt_na then some (pc + 1, ls, .int (Int32.ofNat n) :: r, h) else if q = mi_SC then some (pc + 1, ls, .int (Int32.ofNat n) :: r, h) else none
      | _ => none
    | _ => none
  | .new idx => match mt_c (mt_oc y) idx with
    | some ci => if mt_nw ci = true ∧ h.1 + 1 ≤ mi_NC ∧ h.2.1 + mt_nf ci ≤ mi_NS then some (pc + 3, ls, .ref h.1 :: st, (h.1 + 1, h.2.1 + mt_nf ci, va_up h.2.2 h.1 (.inr (ci, mt_df ci)))) else none
    | none => none
  | .newarray aty => match mi_at aty, st with
    | some (k, z), .int n :: r => if ¬ n < 0 ∧ n.toNatClampNeg ≤ 1000000 ∧ h.1 + 1 ≤ mi_NC ∧ h.2.1 + n.toNatClampNeg ≤ mi_NS then some (pc + 2, ls, .ref h.1 :: r, (h.1 + 1, h.2.1 + n.toNatClampNeg, va_up h.2.2 h.1 (.inl (k, n.toNatClampNeg, z)))) else none
    | _, _ => none
  | .anewarray idx => match mt_c (mt_oc y) idx, st with
    | some ci, .int n :: r => match mt_ka ci with
      | some k => if ¬ n < 0 ∧ n.toNatClampNeg ≤ 1000000 ∧ h.1 + 1 ≤ mi_NC ∧ h.2.1 + n.toNatClampNeg ≤ mi_NS then some (pc + 3, ls, .ref h.1 :: r, (h.1 + 1, h.2.1 + n.toNatClampNeg, va_up h.2.2 h.1 (.inl (k, n.toNatClampNeg, .inr (.inr (.inr (.inr (fun _ => none)))))))) else none
      | none => none
    | _, _ => none
  | _ => none
section
variable {p : Program} {l : Launch} {e : Env} {R : Room} {s : State} {m : MethodId} {args : Array Value} {below : List Frame} {meth : Method} {c : Code} {H : Heap} {locs : List Loc} {cells slots : Nat} {Q : State → Prop}
variable {B d nL : Nat} {ad : Nat → Nat} {D : va_G} {cA : Nat → ClassId} {cc : ByteArray}
set_option maxHeartbeats 4000000 in
theorem mi_sD_ok {y : Nat} {i : Instr} {pc len pc' : Nat} {ls ls' : mi_L} {st st' : List Value} {h h' : mi_H} {lsR : Array Slot} (K : mi_Kx y cc p s m meth c nL) (hs : mi_sD y i pc ls st h = some (pc', ls', st', h')) (hd : decode cc pc = .ok (i, len)) (hln : mi_len i len = true) (L : mi_LR ad nL ls lsR) (I : mi_I B ad D cA h s H locs cells) (rm : mi_rm d h R cells slots)
    (kk : ∀ (lsR' : Array Slot) (H' : Heap) (locs' : List Loc) (cells' slots' : Nat), mi_I B ad D cA h' s H' locs' cells' → mi_LR ad nL ls' lsR' → mi_rm d h' R cells' slots' → W p l e R s m args below meth c H' locs' cells' slots' Q (F0 m pc' lsR' (st'.map (mi_v ad)))) : W p l e R s m args below meth c H locs cells slots Q (F0 m pc lsR (st.map (mi_v ad))) := by
  have hx := K.1
  have hb := K.2.1
  cases i with
  | getfield idx =>
    obtain rfl : len = 3 := by simpa [mi_len] using hln
    simp only [mi_sD] at hs
    split at hs
    · rename_i q r
      split at hs
      · rename_i ci k cj fs hf hc
        split at hs
        · rename_i hg
          obtain ⟨hq, rfl⟩ := hg
          split at hs
          · rename_i v hv
            simp only [Option.some.injEq, Prod.mk.injEq] at hs; obtain ⟨rfl, rfl, rfl, rfl⟩ := hs
            obtain ⟨C, T, N, hcl, hk, hin, hlk⟩ := mt_f_ok hf
            rw [List.map_cons, mi_v_ref I hq]
            exact va_get hx hb (I.tbl args (mt_cws hcl)) (fun _ z => z) K.own I.K I.P q ((mi_ws_get hq).trans (by rw [hc]; rfl)) hcl k hk (I.tb args _ hlk) (fun _ z => z) (v := mi_v ad v) (by simp [hv]) hd (kk _ _ _ _ _ I L rm)
          · cases hs
        · cases hs
      · cases hs
    · cases hs
  | putfield idx =>
    obtain rfl : len = 3 := by simpa [mi_len] using hln
    simp only [mi_sD] at hs
    split at hs
    · rename_i v q r
      split at hs
      · rename_i ci k cj fs hf hc
        split at hs
        · rename_i hg
          obtain ⟨hq, rfl, hkl, hfk, hfin⟩ := hg
          simp only [Option.some.injEq, Prod.mk.injEq] at hs; obtain ⟨rfl, rfl, rfl, rfl⟩ := hs
          obtain ⟨C, T, N, hcl, hk, hin, hlk⟩ := mt_f_ok hf
          obtain ⟨hty, hnm, hfi⟩ := mt_cl_ok hcl
          obtain ⟨hn1, hn2⟩ := mi_fk_ok ad hfk
          rw [List.map_cons, List.map_cons, mi_v_ref I hq]
          have hE : (mi_ws B ad cA h.1 h.2.2)[q]? = some (B + q, .inr (cj, fs.map (mi_v ad))) := (mi_ws_get hq).trans (by rw [hc]; rfl)
          have hK : ∀ (H1 : Heap) (locs1 : List Loc), va_P D mt_cl ((mi_ws B ad cA h.1 h.2.2).set q (B + q, .inr (cj, (fs.map (mi_v ad)).set k (mi_v ad v)))) H1 → va_D (fun q => B ≤ q) ((mi_ws B ad cA h.1 h.2.2).set q (B + q, .inr (cj, (fs.map (mi_v ad)).set k (mi_v ad v)))) → va_S (fun q => B ≤ q) s.heap H1 locs1 → W p l e R s m args below meth c H1 locs1 cells slots Q (F0 m (pc + 3) lsR (r.map (mi_v ad))) := by
            intro H1 locs1 hP1 _ hS1
            rw [← List.map_set] at hP1
            have hP2 : va_P D mt_cl (mi_ws B ad cA h.1 (va_up h.2.2 q (.inr (cj, fs.set k v)))) H1 := by
              rw [← mi_ws_set hq]; exact hP1
            exact kk _ _ _ _ _ (I.upd hq hP2 hS1) L rm
          cases hfn : mt_fn cj k with
          | false => exact va_put hx hb (I.tbl args (mt_cws hcl)) (fun _ z => z) (mt_ft cj) hty hnm K.own I.K I.P mi_ws_D I.S q hE hcl k hk (I.tb args _ hlk) (fun _ z => z) ((hfi k hk).trans hfn) (hty k hk) hn1 hn2 (by simpa using hkl) hd hK
          | true =>
            have hin2 : mt_in y cj = true := by rcases hfin with z | z; (rw [hfn] at z; cases z); exact z
            obtain ⟨z1, z2⟩ := K.init hin2 hcl k hk
            exact va_putF hx hb (I.tbl args (mt_cws hcl)) (fun _ z => z) (mt_ft cj) hty hnm K.own I.K I.P mi_ws_D I.S q hE hcl k hk (I.tb args _ hlk) (fun _ z => z) ((hfi k hk).trans hfn) z1 z2 (hty k hk) hn1 hn2 (by simpa using hkl) hd hK
        · cases hs
      · cases hs
    · cases hs
  | iaload =>
    obtain rfl : len = 1 := by simpa [mi_len] using hln
    simp only [mi_sD] at hs
    split at hs
    · rename_i j q r
      split at hs
      · rename_i n f hc
        split at hs
        · rename_i hg
          obtain ⟨hq, hin⟩ := hg
          simp only [Option.some.injEq, Prod.mk.injEq] at hs; obtain ⟨rfl, rfl, rfl, rfl⟩ := hs
          rcases hq with hq | rfl
          · rw [List.map_cons, List.map_cons, mi_v_ref I hq]
            exact va_iald hx hb I.K I.P q 0 ((mi_ws_get hq).trans (by rw [hc]; rfl)) (mi_ty_get (by decide)) hin hd (kk _ _ _ _ _ I L rm)
          · rw [List.map_cons, List.map_cons, mi_v_sc (ad := ad)]
            obtain ⟨hX, hb1, hb2, hb3⟩ := I.script hc
            exact va_sld hx hb hX hb1 hb2 hb3 hin hd (kk _ _ _ _ _ I L rm)
        · cases hs
      · cases hs
    · cases hs
  | baload =>
    obtain rfl : len = 1 := by simpa [mi_len] using hln
    simp only [mi_sD] at hs
    split at hs
    · rename_i j q r
      split at hs
      · rename_i n f hc
        split at hs
        · rename_i hg
          obtain ⟨hq, hin⟩ := hg
          simp only [Option.some.injEq, Prod.mk.injEq] at hs; obtain ⟨rfl, rfl, rfl, rfl⟩ := hs
          rw [List.map_cons, List.map_cons, mi_v_ref I hq]
          exact va_bald hx hb I.K I.P q 1 ((mi_ws_get hq).trans (by rw [hc]; rfl)) (mi_ty_get (by decide)) hin hd (kk _ _ _ _ _ I L rm)
        · cases hs
      · rename_i n f hc
        split at hs
        · rename_i hg
          obtain ⟨hq, hin⟩ := hg
          simp only [Option.some.injEq, Prod.mk.injEq] at hs; obtain ⟨rfl, rfl, rfl, rfl⟩ := hs
          rw [List.map_cons, List.map_cons, mi_v_ref I hq]
          exact va_zald hx hb I.K I.P q 2 ((mi_ws_get hq).trans (by rw [hc]; rfl)) (mi_ty_get (by decide)) hin hd (kk _ _ _ _ _ I L rm)
        · cases hs
      · cases hs
    · cases hs
  | laload =>
    obtain rfl : len = 1 := by simpa [mi_len] using hln
    simp only [mi_sD] at hs
    split at hs
    · rename_i j q r
      split at hs
      · rename_i n f hc
        split at hs
        · rename_i hg
          obtain ⟨hq, hin⟩ := hg
          simp only [Option.some.injEq, Prod.mk.injEq] at hs; obtain ⟨rfl, rfl, rfl, rfl⟩ := hs
          rw [List.map_cons, List.map_cons, mi_v_ref I hq]
          exact va_lald hx hb I.K I.P q 3 ((mi_ws_get hq).trans (by rw [hc]; rfl)) (mi_ty_get (by decide)) hin hd (kk _ _ _ _ _ I L rm)
        · cases hs
      · cases hs
    · cases hs
  | iastore =>
    obtain rfl : len = 1 := by simpa [mi_len] using hln
    simp only [mi_sD] at hs
    split at hs
    · rename_i x j q r
      split at hs
      · rename_i n f hc
        split at hs
        · rename_i hg
          obtain ⟨hq, hin⟩ := hg
          simp only [Option.some.injEq, Prod.mk.injEq] at hs; obtain ⟨rfl, rfl, rfl, rfl⟩ := hs
          rw [List.map_cons, List.map_cons, List.map_cons, mi_v_ref I hq]
          refine va_iast hx hb I.K I.P mi_ws_D I.S q 0 ((mi_ws_get hq).trans (by rw [hc]; rfl)) (mi_ty_get (by decide)) hin hd (fun H1 locs1 hP1 _ hS1 => ?_)
          have hP2 : va_P D mt_cl (mi_ws B ad cA h.1 (va_up h.2.2 q (.inl (0, n, .inl (upd f j.toNatClampNeg x))))) H1 := by
            rw [← mi_ws_set hq]; exact hP1
          exact kk _ _ _ _ _ (I.upd hq hP2 hS1) L rm
        · cases hs
      · cases hs
    · cases hs
  | bastore =>
    obtain rfl : len = 1 := by simpa [mi_len] using hln
    simp only [mi_sD] at hs
    split at hs
    · rename_i x j q r
      split at hs
      · rename_i n f hc
        split at hs
        · rename_i hg
          obtain ⟨hq, hin⟩ := hg
          simp only [Option.some.injEq, Prod.mk.injEq] at hs; obtain ⟨rfl, rfl, rfl, rfl⟩ := hs
          rw [List.map_cons, List.map_cons, List.map_cons, mi_v_ref I hq]
          refine va_bast hx hb I.K I.P mi_ws_D I.S q 1 ((mi_ws_get hq).trans (by rw [hc]; rfl)) (mi_ty_get (by decide)) hin hd (fun H1 locs1 hP1 _ hS1 => ?_)
          have hP2 : va_P D mt_cl (mi_ws B ad cA h.1 (va_up h.2.2 q (.inl (1, n, .inl (upd f j.toNatClampNeg (vp_nar .byte x)))))) H1 := by
            rw [← mi_ws_set hq]; exact hP1
          exact kk _ _ _ _ _ (I.upd hq hP2 hS1) L rm
        · cases hs
      · rename_i n f hc
        split at hs
        · rename_i hg
          obtain ⟨hq, hin⟩ := hg
          simp only [Option.some.injEq, Prod.mk.injEq] at hs; obtain ⟨rfl, rfl, rfl, rfl⟩ := hs
          rw [List.map_cons, List.map_cons, List.map_cons, mi_v_ref I hq]
          refine va_zast hx hb I.K I.P mi_ws_D I.S q 2 ((mi_ws_get hq).trans (by rw [hc]; rfl)) (mi_ty_get (by decide)) hin hd (fun H1 locs1 hP1 _ hS1 => ?_)
          have hP2 : va_P D mt_cl (mi_ws B ad cA h.1 (va_up h.2.2 q (.inl (2, n, .inl (upd f j.toNatClampNeg (vp_nar .boolean x)))))) H1 := by
            rw [← mi_ws_set hq]; exact hP1
          exact kk _ _ _ _ _ (I.upd hq hP2 hS1) L rm
        · cases hs
      · cases hs
    · cases hs
  | lastore =>
    obtain rfl : len = 1 := by simpa [mi_len] using hln
    simp only [mi_sD] at hs
    split at hs
    · rename_i x j q r
      split at hs
      · rename_i n f hc
        split at hs
        · rename_i hg
          obtain ⟨hq, hin⟩ := hg
          simp only [Option.some.injEq, Prod.mk.injEq] at hs; obtain ⟨rfl, rfl, rfl, rfl⟩ := hs
          rw [List.map_cons, List.map_cons, List.map_cons, mi_v_ref I hq]
          refine va_last hx hb I.K I.P mi_ws_D I.S q 3 ((mi_ws_get hq).trans (by rw [hc]; rfl)) (mi_ty_get (by decide)) hin hd (fun H1 locs1 hP1 _ hS1 => ?_)
          have hP2 : va_P D mt_cl (mi_ws B ad cA h.1 (va_up h.2.2 q (.inl (3, n, .inr (.inl (vp_updL f j.toNatClampNeg x)))))) H1 := by
            rw [← mi_ws_set hq]; exact hP1
          exact kk _ _ _ _ _ (I.upd hq hP2 hS1) L rm
        · cases hs
      · cases hs
    · cases hs
  | aaload =>
    obtain rfl : len = 1 := by simpa [mi_len] using hln
    simp only [mi_sD] at hs
    split at hs
    · rename_i j q r
      split at hs
      · rename_i k n f hc
        split at hs
        · rename_i hg
          obtain ⟨⟨hq, hk4, hkn⟩, hin⟩ := hg
          simp only [Option.some.injEq, Prod.mk.injEq] at hs; obtain ⟨rfl, rfl, rfl, rfl⟩ := hs
          rw [List.map_cons, List.map_cons, mi_v_ref I hq]
          obtain ⟨C, hC⟩ := mt_ao hk4 hkn
          refine va_aldq (C := C) hx hb I.K I.P q k (f := fun j => (f j).map ad) ((mi_ws_get hq).trans (by rw [hc]; rfl)) ((mi_ty_get hkn).trans (by rw [hC])) hin hd ?_
          have z := kk _ _ _ _ _ I L rm
          rw [List.map_cons, mi_v_rf] at z
          exact z
        · cases hs
      · cases hs
    · cases hs
  | aastore =>
    obtain rfl : len = 1 := by simpa [mi_len] using hln
    simp only [mi_sD] at hs
    split at hs
    · rename_i v j q r
      split at hs
      · rename_i k n f ci fs hc hcv
        split at hs
        · rename_i hg
          obtain ⟨⟨hq, hv, hka⟩, hin⟩ := hg
          simp only [Option.some.injEq, Prod.mk.injEq] at hs; obtain ⟨rfl, rfl, rfl, rfl⟩ := hs
          obtain ⟨hkn, C, hC, hty⟩ := mt_ac_ok hka
          rw [List.map_cons, List.map_cons, List.map_cons, mi_v_ref I hq, mi_v_ref I hv]
          refine va_astq hx hb I.K I.P mi_ws_D I.S q k v ci (f := fun j => (f j).map ad) (r := C) ((mi_ws_get hq).trans (by rw [hc]; rfl)) ((mi_ty_get hkn).trans (by rw [hty])) ((mi_ws_get hv).trans (by rw [hcv]; rfl)) hC hin hd (fun H1 locs1 hP1 _ hS1 => ?_)
          have hP2 : va_P D mt_cl (mi_ws B ad cA h.1 (va_up h.2.2 q (.inl (k, n, .inr (.inr (.inr (.inr (va_up f j.toNatClampNeg (some v))))))))) H1 := by
            rw [← mi_ws_set hq]
            have e1 : mi_c ad cA (.inl (k, n, .inr (.inr (.inr (.inr (va_up f j.toNatClampNeg (some v))))))) = .inl (cA k, n, .inr (.inr (.inr (.inr (va_up (fun j => (f j).map ad) j.toNatClampNeg (some (B + v))))))) := by
              show Sum.inl (cA k, n, Sum.inr (Sum.inr (Sum.inr (Sum.inr (fun i => (va_up f j.toNatClampNeg (some v) i).map ad))))) = _
              congr 7
              funext i
              unfold va_up
              split
              · show some (ad v) = _
                rw [I.1 v (Nat.lt_of_lt_of_le hv I.lt)]
              · rfl
            rw [e1]; exact hP1
          exact kk _ _ _ _ _ (I.upd hq hP2 hS1) L rm
        · cases hs
      · cases hs
    · cases hs
  | arraylength =>
    obtain rfl : len = 1 := by simpa [mi_len] using hln
    simp only [mi_sD] at hs
    split at hs
    · rename_i q r
      split at hs
      · rename_i k n a hc
        split at hs
        · rename_i hg
          simp only [Option.some.injEq, Prod.mk.injEq] at hs; obtain ⟨rfl, rfl, rfl, rfl⟩ := hs
          rw [List.map_cons, mi_v_ref I hg.1]
          exact va_alen hx hb I.K I.P q k (x := mi_a ad (n, a)) ((mi_ws_get hg.1).trans (by rw [hc]; rfl)) (mi_ty_get hg.2) (by rw [mi_a_1]) hd (kk _ _ _ _ _ I L rm)
        · split at hs
          · rename_i hg
            subst hg
            simp only [Option.some.injEq, Prod.mk.injEq] at hs; obtain ⟨rfl, rfl, rfl, rfl⟩ := hs
            rw [List.map_cons, mi_v_sc (ad := ad)]
            obtain ⟨xs, rfl, rfl⟩ := I.script0 hc
            obtain ⟨hX, hb1, hb2, hb3⟩ := I.script hc
            exact va_slen hx hb hX hb1 hb2 hb3 hd (kk _ _ _ _ _ I L rm)
          · cases hs
      · cases hs
    · cases hs
  | new idx =>
    obtain rfl : len = 3 := by simpa [mi_len] using hln
    simp only [mi_sD] at hs
    split at hs
    · rename_i ci hci
      split at hs
      · rename_i hg
        obtain ⟨hnw, hg1, hg2⟩ := hg
        simp only [Option.some.injEq, Prod.mk.injEq] at hs; obtain ⟨rfl, rfl, rfl, rfl⟩ := hs
        obtain ⟨C, T, hcl, hin, hlk, hins, hini⟩ := mt_c_ok hci hnw
        obtain ⟨hty, hnm, hfi⟩ := mt_cl_ok hcl
        refine va_new (c0 := c) hx hb (I.tbl args (mt_cws hcl)) (fun _ z => z) (mt_ft ci) hty K.own (I.tb args _ hlk) (I.tb args _ hins) (I.tb args _ hini) I.K I.P mi_ws_D I.S I.hA hcl (fs := (mt_df ci).map (mi_v ad)) (mt_df_ok hcl hnw) (rm.cell hg1) (rm.slot hg2) hd (fun q H1 hP1 hD1 hS1 => ?_)
        refine mi_sized (fun hsz => ?_)
        obtain rfl := mi_fresh I hP1 hD1 hsz
        have z := kk _ H1 _ _ _ (I.push (c' := .inr (ci, mt_df ci)) (by rw [← mi_ws_push]; exact hP1) hS1 (Nat.le_trans hg1 mi_NC_SC)) L (rm.push hg1 hg2)
        rw [List.map_cons, mi_v_new I (Nat.le_trans hg1 mi_NC_SC)] at z
        exact z
      · cases hs
    · cases hs
  | newarray aty =>
    obtain rfl : len = 2 := by simpa [mi_len] using hln
    simp only [mi_sD] at hs
    split at hs
    · rename_i k z n r haty
      split at hs
      · rename_i hg
        obtain ⟨hn0, hn1, hg1, hg2⟩ := hg
        simp only [Option.some.injEq, Prod.mk.injEq] at hs; obtain ⟨rfl, rfl, rfl, rfl⟩ := hs
        obtain ⟨hk, har, hty, hcell, hby⟩ := mi_at_ok (ad := ad) haty
        refine va_newa hx hb (I.tb args _ har) hty I.K I.P mi_ws_D I.S I.hA (a0 := mi_a ad (n.toNatClampNeg, z)) (fun c9 => hcell c9 _) hn0 rfl (Nat.le_trans (hby _) (by omega)) (rm.cell hg1) (rm.slot hg2) hd (fun q c9 H1 hK1 hP1 hD1 hS1 => ?_)
        refine mi_sized (fun hsz => ?_)
        obtain rfl := mi_fresh I hP1 hD1 hsz
        obtain rfl := mi_same I hk hK1
        have w := kk _ H1 _ _ _ (I.push (c' := .inl (k, n.toNatClampNeg, z)) (by rw [← mi_ws_push]; exact hP1) hS1 (Nat.le_trans hg1 mi_NC_SC)) L (rm.push hg1 hg2)
        rw [List.map_cons, mi_v_new I (Nat.le_trans hg1 mi_NC_SC)] at w
        exact w
      · cases hs
    · cases hs
  | anewarray idx =>
    obtain rfl : len = 3 := by simpa [mi_len] using hln
    simp only [mi_sD] at hs
    split at hs
    · rename_i ci n r hci
      split at hs
      · rename_i k hka
        split at hs
        · rename_i hg
          obtain ⟨hn0, hn1, hg1, hg2⟩ := hg
          simp only [Option.some.injEq, Prod.mk.injEq] at hs; obtain ⟨rfl, rfl, rfl, rfl⟩ := hs
          obtain ⟨hk, hty, hov⟩ := mt_ka_ok hka
          refine va_newq (C := mt_cn ci) hx hb K.own (I.tb args _ (mt_c_lk hci)) (I.tt.2.2.2 _ hov) I.K I.P mi_ws_D I.S I.hA hn0 rfl (by omega) (rm.cell hg1) (rm.slot hg2) hd (fun q c9 H1 hK1 hP1 hD1 hS1 => ?_)
          refine mi_sized (fun hsz => ?_)
          obtain rfl := mi_fresh I hP1 hD1 hsz
          rw [← hty] at hK1
          obtain rfl := mi_same I hk hK1
          have w := kk _ H1 _ _ _ (I.push (c' := .inl (k, n.toNatClampNeg, .inr (.inr (.inr (.inr (fun _ => none)))))) (by rw [← mi_ws_push]; exact hP1) hS1 (Nat.le_trans hg1 mi_NC_SC)) L (rm.push hg1 hg2)
          rw [List.map_cons, mi_v_new I (Nat.le_trans hg1 mi_NC_SC)] at w
          exact w
        · cases hs
      · cases hs
    · cases hs
  | _ => exact absurd hs (by simp [mi_sD])
end
