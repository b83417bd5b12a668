/-! the small machine whole -/
def mi_i (y : Nat) (i : Instr) (st : List Value) (h : mi_H) : Option (Nat × List Value × List Value) := match i with
  | .invokevirtual idx => match mt_m (mt_oc y) idx with
    | some (y2, 0) => match st.drop (mt_np y2) with
      | .ref q :: rest => match h.2.2 q with
        | .inr (ci, _) => if ((q < h.1 ∨ (mi_SC < q ∧ (q - mi_SC - 1) / 2 < mt_ns)) ∧ ci = mt_oc y2) ∧ mt_np y2 ≤ st.length ∧ (rest.map fun v => v.category).sum ≤ 8 ∧ (lg_sl (.ref q :: (st.take (mt_np y2)).reverse)).length ≤ mt_ml y2 then some (y2, .ref q :: (st.take (mt_np y2)).reverse, rest) else none
        | _ => none
      | _ => none
    | _ => none
  | .invokespecial idx => match mt_m (mt_oc y) idx with
    | some (y2, kd) => match st.drop (mt_np y2) with
      | .ref q :: rest => if (q < h.1 ∧ (kd = 2 ∨ kd = 3)) ∧ mt_np y2 ≤ st.length ∧ (rest.map fun v => v.category).sum ≤ 8 ∧ (lg_sl (.ref q :: (st.take (mt_np y2)).reverse)).length ≤ mt_ml y2 then some (y2, .ref q :: (st.take (mt_np y2)).reverse, rest) else none
      | _ => none
    | _ => none
  | .invokestatic idx => match mt_m (mt_oc y) idx with
    | some (y2, 4) => if mt_np y2 ≤ st.length ∧ ((st.drop (mt_np y2)).map fun v => v.category).sum ≤ 8 ∧ (lg_sl ((st.take (mt_np y2)).reverse)).length ≤ mt_ml y2 then some (y2, (st.take (mt_np y2)).reverse, st.drop (mt_np y2)) else none
    | _ => none
  | _ => none
def mi_x : Nat → Nat → Nat → Nat → mi_L → List Value → mi_H → Option ((Option Value ⊕ Nat) × mi_H)
  | 0, _, _, _, _, _, _ => none
  | n + 1, d, y, pc, ls, st, h => match mt_cd y pc with
    | none => none
    | some i => match mi_s y i pc ls st h with
      | some (pc', ls', st', h') => mi_x n d y pc' ls' st' h'
      | none => match mi_e (mt_rt y) i st with
        | some v => some (.inl v, h)
        | none => match mi_t y pc i st h with
          | some h' => some (.inr h.1, h')
          | none => match mi_i y i st h with
            | none => none
            | some (y2, as, rest) => match d with
              | 0 => none
              | d' + 1 => match mi_x n d' y2 0 (mi_en (mt_ml y2) as) [] h with
                | none => none
                | some (.inl v, h1) => mi_x n (d' + 1) y (pc + 3) ls (v.toList ++ rest) h1
                | some (.inr x, h1) => match h1.2.2 x with
                  | .inr (ce, _) => if x < h1.1 then match mi_hf (mt_oc y) pc ce (mt_hd y) with
                      | some (some hp) => mi_x n (d' + 1) y hp ls [.ref x] h1
                      | some none => some (.inr x, h1)
                      | none => none
                    else none
                  | _ => none
section
variable {p : Program} {l : Launch} {e : Env} {R : Room} {s : State} {m : MethodId} {args : Array Value} {below : List Frame} {meth : Method} {c : Code} {H H1 : Heap} {locs locs1 : List Loc} {cells slots : Nat} {Q Q' : State → Prop}
variable {B d nL : Nat} {ad : Nat → Nat} {D : va_G} {cA : Nat → ClassId} {cc : ByteArray} {h : mi_H} {y : Nat}
theorem mi_cut {st rest : List Value} {n : Nat} (hr : st.drop n = rest) : st.map (mi_v ad) = (((st.take n).reverse).map (mi_v ad)).reverse ++ rest.map (mi_v ad) := by
  rw [List.map_reverse, List.reverse_reverse, ← List.map_append, ← hr, List.take_append_drop]
theorem mi_i_ok {T : State} {i : Instr} {pc len : Nat} {st as rest : List Value} {lsR : Array Slot} {y2 : Nat} (X : Stand p l e R s m args below meth c T locs cells slots) (hT : T.heap = H) (K : mi_Kx y cc p s m meth c nL) (hi : mi_i y i st h = some (y2, as, rest)) (hd : decode cc pc = .ok (i, len)) (hln : mi_len i len = true) (I : mi_I B ad D cA h s H locs cells) :
    len = 3 ∧ y2 < mt_ny ∧ (rest.map fun v => v.category).sum ≤ 8 ∧ (lg_sl as).length ≤ mt_ml y2 ∧ mi_Lk p l e R s m args below meth c T locs cells slots (F0 m pc lsR (st.map (mi_v ad))) (rest.map (mi_v ad)) ((as.map (mi_v ad)).toArray) y2 := by
  have hx := K.1
  have hb := K.2.1
  have hTt : mi_T s := I.tt
  unfold mi_i at hi
  split at hi
  · rename_i idx
    obtain rfl : len = 3 := by simpa [mi_len] using hln
    split at hi
    · rename_i y2' hm
      split at hi
      · rename_i q rest' hdr
        split at hi
        · rename_i ci fs hc
          split at hi
          · rename_i hg
            obtain ⟨⟨hq, rfl⟩, h1, h2, h3⟩ := hg
            cases hi
            obtain ⟨cell, z1, z2, z3⟩ := mi_recv2 I hq hc
            refine ⟨rfl, (mt_m0 hm).1, h2, h3, ?_⟩
            refine mi_lkV X hx hTt K.own hm (q := ad q) (cell := cell) (by rw [hT]; exact z1) z2 z3 (g := F0 m pc lsR (st.map (mi_v ad))) rfl (by simp [Nat.min_eq_left h1]) ?_ (by rw [hb]; exact hd)
            show st.map (mi_v ad) = _
            rw [mi_cut hdr]
            rfl
          · cases hi
        · cases hi
      · cases hi
    · cases hi
  · rename_i idx
    obtain rfl : len = 3 := by simpa [mi_len] using hln
    split at hi
    · rename_i y2' kd hm
      split at hi
      · rename_i q rest' hdr
        split at hi
        · rename_i hg
          obtain ⟨⟨hq, hkd⟩, h1, h2, h3⟩ := hg
          cases hi
          have hst : (F0 m pc lsR (st.map (mi_v ad))).stack = (((st.take (mt_np y2)).reverse).map (mi_v ad)).reverse ++ .ref (B + q) :: rest.map (mi_v ad) := by
            show st.map (mi_v ad) = _
            rw [mi_cut hdr, List.map_cons, mi_v_ref I hq]
          rcases hkd with rfl | rfl
          · refine ⟨rfl, (mt_m2 hm).1, h2, h3, ?_⟩
            rw [List.map_cons, mi_v_ref I hq]
            exact mi_lkI X hx hTt K.own hm (g := F0 m pc lsR (st.map (mi_v ad))) rfl (by simp [Nat.min_eq_left h1]) hst (by rw [hb]; exact hd)
          · refine ⟨rfl, (mt_m3 hm).1, h2, h3, ?_⟩
            rw [List.map_cons, mi_v_ref I hq]
            exact mi_lkIN X hx hTt K.own hm (g := F0 m pc lsR (st.map (mi_v ad))) rfl (by simp [Nat.min_eq_left h1]) hst (by rw [hb]; exact hd)
        · cases hi
      · cases hi
    · cases hi
  · rename_i idx
    obtain rfl : len = 3 := by simpa [mi_len] using hln
    split at hi
    · rename_i y2' hm
      split at hi
      · rename_i hg
        obtain ⟨h1, h2, h3⟩ := hg
        cases hi
        refine ⟨rfl, (mt_m4 hm).1, h2, h3, ?_⟩
        exact mi_lkS X hx hTt K.own hm (g := F0 m pc lsR (st.map (mi_v ad))) rfl (by simp [Nat.min_eq_left h1]) (mi_cut rfl) (by rw [hb]; exact hd)
      · cases hi
    · cases hi
  · cases hi
end
def mi_Sd (n : Nat) : Prop := ∀ (d y pc : Nat) (ls : mi_L) (st : List Value) (h : mi_H) (o : Option Value ⊕ Nat) (h' : mi_H), mi_x n d y pc ls st h = some (o, h') →
  ∀ (p : Program) (l : Launch) (e : Env) (R : Room) (s : State) (m : MethodId) (args : Array Value) (below : List Frame) (meth : Method) (c : Code) (H : Heap) (locs : List Loc) (cells slots B : Nat) (ad : Nat → Nat) (D : va_G) (cA : Nat → ClassId) (lsR : Array Slot),
  mi_Kx y (mt_by y) p s m meth c (mt_ml y) → mi_LR ad (mt_ml y) ls lsR → mi_I B ad D cA h s H locs cells → mi_rm d h R cells slots → e.platform.stackTraces = false →
  W p l e R s m args below meth c H locs cells slots (mi_F B ad D cA s below R o h') (F0 m pc lsR (st.map (mi_v ad)))
set_option maxHeartbeats 4000000 in
theorem mi_sound : ∀ n, mi_Sd n := by
  intro n
  induction n with
  | zero =>
    intro d y pc ls st h o h' hE
    cases hE
  | succ n ih =>
    intro d y pc ls st h o h' hE p l e R s m args below meth c H locs cells slots B ad D cA lsR K L I rm htr
    simp only [mi_x] at hE
    cases hcd : mt_cd y pc with
    | none => rw [hcd] at hE; cases hE
    | some i =>
      rw [hcd] at hE
      obtain ⟨len, hd, hln⟩ := mt_cd_ok hcd
      dsimp only at hE
      cases hs : mi_s y i pc ls st h with
      | some r =>
        obtain ⟨pc', ls', st', h1⟩ := r
        rw [hs] at hE
        exact mi_s_ok K hs hd hln L I rm (fun lsR' H' locs' cells' slots' I' L' rm' => ih _ _ _ _ _ _ _ _ hE _ _ _ _ _ _ _ _ _ _ _ _ _ _ _ _ _ _ _ K L' I' rm' htr)
      | none =>
        rw [hs] at hE
        dsimp only at hE
        cases he : mi_e (mt_rt y) i st with
        | some v =>
          rw [he] at hE
          cases hE
          exact mi_e_ok K he hd hln I rm
        | none =>
          rw [he] at hE
          dsimp only at hE
          cases ht : mi_t y pc i st h with
          | some h1 =>
            rw [ht] at hE
            cases hE
            exact mi_t_ok K ht hd hln L I rm htr
          | none =>
            rw [ht] at hE
            dsimp only at hE
            cases hi : mi_i y i st h with
            | none => rw [hi] at hE; cases hE
            | some r =>
              obtain ⟨y2, as, rest⟩ := r
              rw [hi] at hE
              dsimp only at hE
              cases d with
              | zero => cases hE
              | succ d =>
                dsimp only at hE
                cases hc : mi_x n d y2 0 (mi_en (mt_ml y2) as) [] h with
                | none => rw [hc] at hE; cases hE
                | some r =>
                  obtain ⟨o1, h1⟩ := r
                  rw [hc] at hE
                  intro T hT X
                  obtain ⟨rfl, hy2, hw, hl, vm₁, mk, methk, ck, X₁, hn, hm, hck, hstep⟩ := mi_i_ok (lsR := lsR) X hT K hi hd hln I
                  have hTt : mi_T s := I.tt
                  obtain ⟨-, -, -, hcal⟩ := mi_callee K.1 hTt hy2 hn hm hck
                  have hKm := fun (U : State) (hU : (T.setVm vm₁).vm = U.vm) => (hcal U (by rw [← hU]; exact X₁.warmed)).1
                  have hH1 : (T.setVm vm₁).heap = H := hT
                  have hg1 : decode c.code pc = .ok (i, 3) := by rw [K.2.1]; exact hd
                  have hsz1 : lsR.size = c.maxLocals := L.2.1.trans K.2.2.2.1.symm
                  obtain ⟨t, st1, hF⟩ := mi_into X₁ hH1 I rm (g := { F0 m pc lsR (st.map (mi_v ad)) with stack := rest.map (mi_v ad) }) rfl hsz1 hg1 (by show 2 * 0 + _ ≤ 8; rw [mi_cats]; omega) (y2 := y2) (mk := mk) (methk := methk) (ck := ck) (by rw [X₁.warmed.alike.method?]; exact hm) hck (hcal _ X₁.warmed).2 hKm (mt_ml80 hy2) hl
                    (fun s' below' R' a' lsR' K' L' I' rm' => ih _ _ _ _ _ _ _ _ hc _ _ _ _ _ _ _ _ _ _ _ _ _ _ _ _ _ _ _ K' L' I' rm' htr)
                  obtain ⟨L2, k, ns, q1, q2, q3, q4, q5, q6, q7⟩ := hF
                  obtain ⟨I2, rm2⟩ := mi_back (s' := (T.setVm vm₁).calling { F0 m pc lsR (st.map (mi_v ad)) with stack := rest.map (mi_v ad) } mk ((as.map (mi_v ad)).toArray)) X₁ hH1 (by show T.heap = H; exact hT) rfl I rm q5 q6 q7
                  cases o1 with
                  | inl v =>
                    dsimp only at hE
                    obtain ⟨T', X', -, -, et⟩ := X₁.outOf (g := { F0 m pc lsR (st.map (mi_v ad)) with stack := rest.map (mi_v ad) }) rfl hg1 q2 q3 q4
                    have hh : T'.heap = t.heap := by rw [et]; rfl
                    have cont := ih _ _ _ _ _ _ _ _ hE p l e R s m args below meth c t.heap (locs ++ L2) (cells + k) (slots + ns) B ad D cA lsR K L I2 rm2 htr T' hh X'
                    obtain ⟨t2, s2, e2⟩ := cont
                    refine ⟨t2, hstep t2 (fun acts => ?_), e2⟩
                    rw [doInvoke_state]
                    refine st1.trans ?_
                    rw [et]
                    have ev : (v.toList ++ rest).map (mi_v ad) = (v.map (mi_v ad)).toList ++ rest.map (mi_v ad) := by cases v <;> rfl
                    rw [ev] at s2
                    exact s2
                  | inr x =>
                    dsimp only at hE
                    split at hE
                    · rename_i ce fs hcx
                      split at hE
                      · rename_i hx1
                        obtain ⟨T', X', -, -, et⟩ := X₁.outOfThrown (g := { F0 m pc lsR (st.map (mi_v ad)) with stack := rest.map (mi_v ad) }) rfl q2 q3 q4
                        have hh : T'.heap = t.heap := by rw [et, Stand.throwing_heap]
                        obtain ⟨cell, z1, z2, z3⟩ := mi_recv I2 hx1 hcx
                        have hax : ad x = B + x := I2.1 x (Nat.lt_of_lt_of_le hx1 I2.lt)
                        cases hhf : mi_hf (mt_oc y) pc ce (mt_hd y) with
                        | none => rw [hhf] at hE; cases hE
                        | some oo =>
                          rw [hhf] at hE
                          obtain ⟨vm', X'', hgo⟩ := mi_thrown X' hTt K (a := ad x) (cell := cell) (ce := ce) (g := { F0 m pc lsR (st.map (mi_v ad)) with stack := rest.map (mi_v ad) }) rfl rfl rfl (by rw [hh, hax]; exact z1) z3 z2 hhf
                          cases oo with
                          | some hp =>
                            dsimp only at hE hgo
                            have cont := ih _ _ _ _ _ _ _ _ hE p l e R s m args below meth c t.heap (locs ++ L2) (cells + k) (slots + ns) B ad D cA lsR K L I2 rm2 htr (T'.setVm vm') hh X''
                            obtain ⟨t2, s2, e2⟩ := cont
                            refine ⟨t2, hstep t2 (fun acts => ?_), e2⟩
                            rw [doInvoke_state]
                            refine st1.trans ?_
                            rw [et]
                            exact hgo t2 s2
                          | none =>
                            dsimp only at hE hgo
                            cases hE
                            refine ⟨(T'.setVm vm').setFrames (.throwing (ad x) :: below), hstep _ (fun acts => ?_), ?_⟩
                            · rw [doInvoke_state]
                              refine st1.trans ?_
                              rw [et]
                              exact hgo
                            · obtain ⟨g₀, hfr⟩ := X''.frames_eq
                              refine ⟨locs ++ L2, cells + k, slots + ns, X''.here.running, State.frames_setFrames _ (State.cur_lt_of_frames hfr), (X''.ends _).1, (X''.ends _).2, ?_, rm2.2.2.1, rm2.2.2.2⟩
                              show mi_I B ad D cA h' s T'.heap _ _
                              rw [hh]
                              exact I2
                      · cases hE
                    · cases hE
