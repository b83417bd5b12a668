/-! throw new X("text") -/
section
variable {p : Program} {l : Launch} {e : Env} {R : Room} {s : State} {m : MethodId} {args : Array Value} {below : List Frame} {meth : Method} {c : Code} {H H1 : Heap} {locs locs1 : List Loc} {cells slots : Nat} {Q Q' : State → Prop}
variable {B d nL : Nat} {ad : Nat → Nat} {D : va_G} {cA : Nat → ClassId} {cc : ByteArray} {h : mi_H} {y : Nat}
/-- the same walk, begun where it stands now -/
theorem mi_rebase {T : State} (X : Stand p l e R s m args below meth c T locs cells slots) {R' : Room} (hf : R'.frames ≤ R.frames) (hl : R'.locals ≤ R.locals) (hc : cells + R'.cells ≤ R.cells) (hs : slots + R'.slots ≤ R.slots) :
    Stand p l e R' (T.setFrames (.invoking m args :: below)) m args below meth c T [] 0 0 := by
  obtain ⟨g₀, hfr⟩ := X.frames_eq
  have hcur : T.cur < T.threads.size := State.cur_lt_of_frames hfr
  obtain ⟨th, hth, -⟩ := State.frames_cons hfr
  have hfs : (T.setFrames (.invoking m args :: below)).frames = .invoking m args :: below := State.frames_setFrames _ hcur
  have hlim : e.platform.stackLimits (T.setFrames (.invoking m args :: below)).me = e.platform.stackLimits s.me := by rw [State.stackLimits_setFrames]; exact X.limits
  have hby : (T.setFrames (.invoking m args :: below)).me.stackBytes = s.me.stackBytes := by rw [State.stackBytes_setFrames]; exact X.bytes
  have hmeth : (T.setFrames (.invoking m args :: below)).vm.method? m = some meth := X.method'
  have hroom : (T.setFrames (.invoking m args :: below)).hasRoom e.platform R' = true := by
    have hr := X.room
    have hlo := State.localsInUse_invoking X.frames X.method X.code
    have hlo2 := State.localsInUse_invoking hfs hmeth X.code
    obtain ⟨h1, h2⟩ := X.heapHas (a := R'.cells) (b := R'.slots) hc hs
    simp only [State.hasRoom, Bool.and_eq_true, decide_eq_true_eq] at hr ⊢
    obtain ⟨⟨⟨⟨r1, r2, r3, r4, r5, r6⟩, r7⟩, r8⟩, r9⟩ := hr
    rw [hlo] at r1 r4 r5
    rw [X.frames] at r2 r3
    rw [hlo2, hfs, hlim, hby]
    refine ⟨⟨⟨⟨by omega, by omega, by omega, by omega, by omega, r6⟩, h1⟩, h2⟩, ?_⟩
    exact X.book
  refine ⟨X.admits, X.cas, X.clock, hfs, hroom, ?_, hmeth, X.code, X.here, X.tail, State.WarmedH.refl _, ?_, ?_, ?_⟩
  · have hh := X.hears
    unfold State.hears at hh ⊢
    cases below with
    | nil =>
      dsimp only at hh ⊢
      rw [X.method] at hh
      rw [hmeth]
      exact hh
    | cons f r =>
      cases f with
      | java g =>
        dsimp only at hh ⊢
        have e1 : (T.setFrames (.invoking m args :: .java g :: r)).code? g.method = s.code? g.method := by
          rw [State.code?_eq, State.code?_eq]
          show (T.vm.method? g.method).bind _ = _
          rw [X.warmed.alike.method?]
        rw [e1]
        exact hh
      | native g => exact hh
      | proc g => exact hh
      | _ =>
        dsimp only at hh ⊢
        rw [X.method] at hh
        rw [hmeth]
        exact hh
  · rw [State.stackLimits_setFrames]
  · rw [State.stackBytes_setFrames]
  · obtain ⟨t2, ht2, -⟩ := State.frames_cons hfs
    have h1 := (State.sameButNew.refl (T.setFrames (.invoking m args :: below)) ht2).setFrames T.frames (State.cur_lt_of_frames hfs)
    have e1 : (T.setFrames (.invoking m args :: below)).setFrames T.frames = T := by rw [State.setFrames_setFrames, State.setFrames_self hth]
    rw [e1] at h1
    exact h1
/-- a static that holds a reference -/
theorem mi_zq {C n d : String} (hz : mi_Zs C n d B s s.heap) : (Cond.isRef (.static C n d)).before args s = true ∧ (Cond.laysStatic C n d).before args s = true := by
  obtain ⟨cf, kf, fi, f, a, cell, v, h1, h2, h3, h4, ⟨h5, -⟩, h6, h7, h8, h9, h10, h11⟩ := hz
  have hn : s.fieldNamed? C n d true = some (cf, kf, f.slot) := by
    simp [State.fieldNamed?, h2, h3]
  have key : (Term.static C n d).eval args s none [] s = some v := by
    simp [Term.eval, hn, h4, h5, h6, h10]
  refine ⟨?_, ?_⟩
  · simp only [Cond.before, Cond.holds, Cond.value, key]
    cases v <;> first | rfl | (cases h11)
  · exact Cond.laysStatic_of h1 h2 h3 h4 h5 h6 h7 h8 h9
/-- the words of a throw -/
theorem mi_tw {X : String} {w : Cond} (hT : mi_T s) (hX : ∃ cX, s.vm.findClass X = some cX) (h1 : mi_Zs "java/lang/Throwable" "UNASSIGNED_STACK" "[Ljava/lang/StackTraceElement;" B s s.heap) (h2 : mi_Zs "java/lang/Throwable" "SUPPRESSED_SENTINEL" "Ljava/util/List;" B s s.heap) (hw : mt_tw X w) : w.before args s = true := by
  rcases hw with hw | rfl | rfl | rfl | rfl | rfl | ⟨Y, b, rfl, hi, hc⟩
  · exact hT.1 args _ hw
  · obtain ⟨cX, hX⟩ := hX
    simp [Cond.before, Cond.holds, Cond.value, hX, Vm.assignable_self]
  · exact (mi_zq h1).1
  · exact (mi_zq h2).1
  · exact (mi_zq h1).2
  · exact (mi_zq h2).2
  · obtain ⟨mk, methk, hn, hm, hst, -⟩ := Cond.instanceMethod_spec (hT.1 args _ hi)
    obtain ⟨meth', ck, hm', -, -, -, -, -, -, hsig⟩ := Cond.code_spec hn (hT.1 args _ hc)
    cases hm.symm.trans hm'
    simp [Cond.before, Cond.holds, Cond.value, hn, hm, hst, hsig]
def mi_tx (y pc ce : Nat) : Bool := match mt_cd y pc, mt_cd y (pc + 3) with
  | some (.invokespecial ic), some .athrow => decide ((mt_oc y, ic, ce) ∈ mt_tl) && (mt_hd y).all (fun q => !(decide (q.1 ≤ pc + 3) && decide (pc + 3 < q.2.1)))
  | _, _ => false
def mi_t (y pc : Nat) (i : Instr) (st : List Value) (h : mi_H) : Option mi_H := match i with
  | .new idx => match mt_c (mt_oc y) idx with
    | some ce => match mt_cd y (pc + 3), mt_cd y (pc + 4) with
      | some .dup, some (.ldc k) => if (mt_s (mt_oc y) k).isSome = true ∧ mi_tx y (pc + 6) ce = true ∧ (st.map fun v => v.category).sum ≤ 8 ∧ h.1 + 1 ≤ mi_NC ∧ h.2.1 + 6 ≤ mi_NS then some (h.1 + 1, h.2.1 + 6, va_up h.2.2 h.1 (.inr (ce, []))) else none
      | some .dup, some (.ldc_w k) => if (mt_s (mt_oc y) k).isSome = true ∧ mi_tx y (pc + 7) ce = true ∧ (st.map fun v => v.category).sum ≤ 8 ∧ h.1 + 1 ≤ mi_NC ∧ h.2.1 + 6 ≤ mi_NS then some (h.1 + 1, h.2.1 + 6, va_up h.2.2 h.1 (.inr (ce, []))) else none
      | _, _ => none
    | none => none
  | _ => none
/-- the throw's end -/
def mi_Th (s : State) (args : Array Value) (below : List Frame) (X : String) (a : Addr) (t : State) : Prop := t.status = .running ∧ Ended t below (.threw a) ∧ s.WarmedH t.vm ∧ s.sameButNew ({ t with vm := s.vm } : State) [] 1 6 ∧ ∃ (ce : Cell) (msg : Value), t.heap[a]? = some ce ∧ Bundle.OwnCell args s X a msg ce
theorem mi_tx_ok {pc ce : Nat} {lsR : Array Slot} {st : List Value} (hx : p.tables.exec = Jvm.exec) (hb : c.code = mt_by y) (hlk : meth.locks = false) (hsz : lsR.size = c.maxLocals) (hown : s.vm.findClass (mt_cn (mt_oc y)) = some m.cls) (hhd : c.exceptionTable.toList.map (fun h => (h.startPc, h.endPc, h.handlerPc, h.catchType)) = mt_hd y) (hT : mi_T s) (hF1 : mi_Zs "java/lang/Throwable" "UNASSIGNED_STACK" "[Ljava/lang/StackTraceElement;" B s s.heap) (hF2 : mi_Zs "java/lang/Throwable" "SUPPRESSED_SENTINEL" "Ljava/util/List;" B s s.heap) (htr : e.platform.stackTraces = false) (hrf : 8 ≤ R.frames) (hrl : 200 ≤ R.locals) (ht : mi_tx y pc ce = true)
    {cX : ClassId} {kX : Class} (hfX : s.vm.findClass (mt_cn ce) = some cX) (hkX : s.vm.classes[cX]? = some kX) {a : Addr} (ha : s.heap.size ≤ a) (hcell : H[a]? = some (freshCell cX kX)) {q : Nat} (hst : (st.map fun v => v.category).sum ≤ 8) :
    W p l e R s m args below meth c H [] 1 6 (mi_Th s args below (mt_cn ce) a) (F0 m pc lsR (.ref q :: .ref a :: .ref a :: st.map (mi_v ad))) := by
  unfold mi_tx at ht
  split at ht
  · rename_i ic h1 h2
    rw [Bool.and_eq_true, decide_eq_true_eq] at ht
    obtain ⟨ht, hall⟩ := ht
    obtain ⟨g1, g2, hat, -, -⟩ := mt_tl_ok _ ht
    obtain ⟨l1, d1, n1⟩ := mt_cd_ok h1
    obtain ⟨l2, d2, n2⟩ := mt_cd_ok h2
    obtain rfl : l1 = 3 := by simpa [mi_len] using n1
    obtain rfl : l2 = 1 := by simpa [mi_len] using n2
    intro T hT' X
    have hout : ∀ x ∈ c.exceptionTable.toList, covers x (pc + 3) = false := by
      intro x hxm
      have hm := List.mem_map_of_mem (f := fun h : ExceptionTableEntry => (h.startPc, h.endPc, h.handlerPc, h.catchType)) hxm
      rw [hhd] at hm
      have := List.all_eq_true.mp hall _ hm
      simp only [covers]
      simp only [Bool.not_eq_true'] at this
      exact this
    have hfit : Bundle.fit (mt_cn ce) = true := by
      rcases mt_ex g1 g2 with rfl | rfl | rfl <;> decide +kernel
    obtain ⟨U, hsteps, hrun, hend, hW, hsame, cell, hcl, hOC⟩ := X.ctorThrowS hx htr (own := mt_cn (mt_oc y)) (cls := mt_cn ce) (names := mt_up) (ic := ic) hown hfit (by decide +kernel)
      (fun w hw => mi_tw hT ⟨_, hfX⟩ hF1 hF2 (hat w hw)) (fun x hx => by cases hx) hfX hkX (a := a) (by rw [hT']; exact hcell) ha (msg := .ref q) rfl
      (g := F0 m pc lsR (.ref q :: .ref a :: .ref a :: st.map (mi_v ad))) rfl hsz rfl rfl (rest := st.map (mi_v ad)) rfl (by rw [hb]; exact d1) (by rw [hb]; exact d2) hout (by show 2 + 3 < _; omega)
      (by
        show 2 * 0 + ((Value.ref a :: st.map (mi_v ad)).map fun v => v.category).sum + (13 * (2 + 1) + 42) ≤ _
        rw [List.map_cons, List.sum_cons, mi_cats]
        have h1 : (Value.ref a).category = 1 := rfl
        rw [h1]
        omega) hlk
    exact ⟨U, hsteps, hrun, hend, hW, hsame, cell, _, hcl, hOC⟩
  · cases ht
set_option maxHeartbeats 1000000 in
theorem mi_t_ok {i : Instr} {pc len : Nat} {ls : mi_L} {st : List Value} {h' : mi_H} {lsR : Array Slot} (K : mi_Kx y (mt_by y) p s m meth c nL) (ht : mi_t y pc i st h = some h') (hd : decode (mt_by y) pc = .ok (i, len)) (hln : mi_len i len = true) (L : mi_LR ad nL ls lsR) (I : mi_I B ad D cA h s H locs cells) (rm : mi_rm d h R cells slots) (htr : e.platform.stackTraces = false) :
    W p l e R s m args below meth c H locs cells slots (mi_F B ad D cA s below R (.inr h.1) h') (F0 m pc lsR (st.map (mi_v ad))) := by
  have hx := K.1
  have hb := K.2.1
  intro T hT X
  have Y := mi_rebase X (R' := mi_R d h) rm.1 rm.2.1 rm.2.2.1 rm.2.2.2
  generalize hs' : T.setFrames (.invoking m args :: below) = s' at Y
  have hvm : s'.vm = T.vm := by rw [← hs']; rfl
  have hhp : s'.heap = T.heap := by rw [← hs']; rfl
  have hW : s.WarmedH s'.vm := by rw [hvm]; exact X.warmed
  have hTt : mi_T s' := mi_T.to I.tt hW
  have hFo : mi_Fo B ad h.2.2 s' := mi_Fo.to I.fo I.le hW (fun a h1 h2 => by rw [hhp, hT]; exact I.S.2.1 a h1 h2)
  have hown : s'.vm.findClass (mt_cn (mt_oc y)) = some m.cls := by rw [hW.alike.findClass]; exact K.own
  have hsz : T.heap.size = B + h.1 := by
    have h1 := X.heapSize
    have h2 := I.sz
    have h3 : B + h.1 ≤ T.heap.size := by
      rw [hT]
      rcases Nat.eq_zero_or_pos h.1 with z | z
      · rw [z, Nat.add_zero]
        exact Nat.le_trans I.le I.S.1
      · have h4 := (I.P _ _ (mi_ws_get (p := h.1 - 1) (by omega))).lt
        simp only at h4
        omega
    omega
  have hlsz : lsR.size = c.maxLocals := L.2.1.trans K.2.2.2.1.symm
  have hlk : meth.locks = false := K.2.2.2.2.2.2.1
  -- what is left, once the object is made
  have main : ∀ (idx ce : Nat), i = .new idx → mt_c (mt_oc y) idx = some ce → 14 ≤ ce → ce ≤ 16 → mt_B (.initialized (mt_cn ce)) → mt_B (.instantiable (mt_cn ce) 6) → (h.1 + 1 ≤ mi_NC ∧ h.2.1 + 6 ≤ mi_NS) → h' = (h.1 + 1, h.2.1 + 6, va_up h.2.2 h.1 (.inr (ce, []))) →
      (∀ (H1 : Heap) (cX : ClassId) (kX : Class), s'.vm.findClass (mt_cn ce) = some cX → s'.vm.classes[cX]? = some kX → H1[T.heap.size]? = some (freshCell cX kX) → W p l e (mi_R d h) s' m args below meth c H1 [] 1 6 (mi_Th s' args below (mt_cn ce) T.heap.size) (F0 m (pc + 3) lsR (.ref T.heap.size :: st.map (mi_v ad)))) →
      ∃ t, Steps p.tables e below (T.setTop (F0 m pc lsR (st.map (mi_v ad)))) t ∧ mi_F B ad D cA s below R (.inr h.1) h' t := by
    intro idx ce hi hc g1 g2 hini hins hroom hh' hk
    subst hi
    obtain rfl : len = 3 := by simpa [mi_len] using hln
    have hSC : h.1 + 1 ≤ mi_SC := Nat.le_trans hroom.1 mi_NC_SC
    obtain ⟨vm', cX, kX, hfX, hkX, -, -, X1, st1⟩ := Y.newCold hx (own := mt_cn (mt_oc y)) (C := mt_cn ce) (index := idx) (n := 6) hown (hTt.1 args _ (mt_c_lk hc)) (hTt.1 args _ hins) (hTt.1 args _ hini) (g := F0 m pc lsR (st.map (mi_v ad))) rfl (by rw [hb]; exact hd)
      (by show 0 + 1 ≤ mi_NC - h.1; omega) (by show 0 + 6 ≤ mi_NS - h.2.1; omega)
    generalize hT1 : (T.setVm vm').pushCell { cls := cX, slots := kX.instanceTypes.map defaultValue, vm := .none } = T1 at X1 st1
    have hcellA : T1.heap[T.heap.size]? = some (freshCell cX kX) := by rw [← hT1]; exact State.heap_pushCell_size _ _
    obtain ⟨t, hst, r1, r2, r3, r4, cell, msg, r5, r6⟩ := hk T1.heap cX kX hfX hkX hcellA T1 rfl X1
    refine ⟨t, st1 _ hst, locs ++ [], cells + 1, slots + 6, r1, ?_, ?_, ?_, ?_, ?_, ?_⟩
    · show Ended t below (.threw (ad h.1))
      rw [I.1 h.1 hSC, ← hsz]
      exact r2
    · refine State.WarmedH.trans X.warmed ?_
      have : s'.WarmedH t.vm := r3
      rw [← hs'] at this
      exact this
    · have q1 : T.sameButNew ({ t with vm := T.vm } : State) [] 1 6 := by
        rw [← hs'] at r4
        exact State.sameButNew.of_setFrames r4
      exact X.same.trans (q1.setVm s.vm)
    · have hold : ∀ q : Nat, q < T.heap.size → t.heap[q]? = T.heap[q]? := by
        intro q hq
        have hc0 : s'.heap[q]? = some (T.heap[q]'hq) := by rw [hhp]; exact Array.getElem?_eq_getElem hq
        have h9 := State.sameButNew.old_cell r4 hc0
        rw [Array.getElem?_eq_getElem hq]
        exact h9
      have hge : T.heap.size ≤ t.heap.size := by
        have := r4.2.1
        rw [hhp] at this
        exact this
      subst hh'
      rw [List.append_nil]
      refine I.push ?_ ⟨?_, ?_, I.S.2.2⟩ hSC
      · rw [← mi_ws_push]
        refine va_P.app (I.P.kept (fun k q hq => ?_)) (fun k q hq => ?_)
        · obtain ⟨hk1, rfl⟩ := mi_ws_at hq
          rw [← hT]
          exact hold _ (by show B + k < _; omega)
        · cases k with
          | zero =>
            cases hq
            have hcl : ∃ r : vw_C, mt_cl[ce]? = some r ∧ r.2.2 = 0 ∧ r.1 = mt_cn ce := by
              rcases mt_ex g1 g2 with rfl | rfl | rfl <;> exact ⟨_, rfl, rfl, rfl⟩
            obtain ⟨r, hr1, hr2, hr3⟩ := hcl
            refine ⟨r, hr1, cell, ?_, ?_, r6.vm, fun k hk => ?_⟩
            · show t.heap[B + h.1]? = _
              rw [← hsz]
              exact r5
            · have z1 := r6.cls
              rw [hW.alike.findClass] at z1
              have z2 := (I.K.1 ce r hr1).2.1
              rw [hr3] at z2
              exact Option.some.inj (z1.symm.trans z2)
            · rw [hr2] at hk
              exact absurd hk (Nat.not_lt_zero _)
          | succ k => cases hq
      · have := I.S.1
        rw [← hT] at this
        exact Nat.le_trans this hge
      · intro q q1 q2
        have h9 := I.S.2.1 q q1 q2
        rw [hold q (by rw [hT]; exact Nat.lt_of_lt_of_le q1 I.S.1), hT]
        exact h9
    · have := rm.2.2.1
      subst hh'
      show cells + 1 + (mi_NC - (h.1 + 1)) ≤ _
      omega
    · have := rm.2.2.2
      subst hh'
      show slots + 6 + (mi_NS - (h.2.1 + 6)) ≤ _
      omega
  unfold mi_t at ht
  split at ht
  · rename_i idx
    split at ht
    · rename_i ce hc
      have hdw : ∀ pc2, mi_tx y pc2 ce = true → 14 ≤ ce ∧ ce ≤ 16 ∧ mt_B (.initialized (mt_cn ce)) ∧ mt_B (.instantiable (mt_cn ce) 6) := by
        intro pc2 h9
        unfold mi_tx at h9
        split at h9
        · rw [Bool.and_eq_true, decide_eq_true_eq] at h9
          obtain ⟨g1, g2, -, g3, g4⟩ := mt_tl_ok _ h9.1
          exact ⟨g1, g2, g3, g4⟩
        · cases h9
      split at ht
      · rename_i k e3 e4
        split at ht
        · rename_i hg
          obtain ⟨hs, htx, hst, hr⟩ := hg
          cases ht
          obtain ⟨g1, g2, g3, g4⟩ := hdw _ htx
          obtain ⟨n, hn⟩ := Option.isSome_iff_exists.mp hs
          obtain ⟨tx, hm⟩ := mt_s_ok hn
          have hz := hFo.2.2.1 _ hm
          obtain ⟨l3, d3, n3⟩ := mt_cd_ok e3
          obtain ⟨l4, d4, n4⟩ := mt_cd_ok e4
          obtain rfl : l3 = 1 := by simpa [mi_len] using n3
          obtain rfl : l4 = 2 := by simpa [mi_len] using n4
          refine main idx ce rfl hc g1 g2 g3 g4 hr rfl (fun H1 cX kX hfX hkX hcl => ?_)
          exact lv_dup hx hb d3 rfl (va_ldcS hx hb hown hz d4 (mi_tx_ok (B := B) hx hb hlk hlsz hown K.2.2.2.2.2.2.2 hTt hFo.2.2.2.2.2.1 hFo.2.2.2.2.2.2 htr (by show 8 ≤ d + 8; omega) (by show 200 ≤ 100 * d + 200; omega) htx hfX hkX (by rw [hhp]; exact Nat.le_refl _) hcl hst))
        · cases ht
      · rename_i k e3 e4
        split at ht
        · rename_i hg
          obtain ⟨hs, htx, hst, hr⟩ := hg
          cases ht
          obtain ⟨g1, g2, g3, g4⟩ := hdw _ htx
          obtain ⟨n, hn⟩ := Option.isSome_iff_exists.mp hs
          obtain ⟨tx, hm⟩ := mt_s_ok hn
          have hz := hFo.2.2.1 _ hm
          obtain ⟨l3, d3, n3⟩ := mt_cd_ok e3
          obtain ⟨l4, d4, n4⟩ := mt_cd_ok e4
          obtain rfl : l3 = 1 := by simpa [mi_len] using n3
          obtain rfl : l4 = 3 := by simpa [mi_len] using n4
          refine main idx ce rfl hc g1 g2 g3 g4 hr rfl (fun H1 cX kX hfX hkX hcl => ?_)
          exact lv_dup hx hb d3 rfl (mi_ldcwS hx hb hown hz d4 (mi_tx_ok (B := B) hx hb hlk hlsz hown K.2.2.2.2.2.2.2 hTt hFo.2.2.2.2.2.1 hFo.2.2.2.2.2.2 htr (by show 8 ≤ d + 8; omega) (by show 200 ≤ 100 * d + 200; omega) htx hfX hkX (by rw [hhp]; exact Nat.le_refl _) hcl hst))
        · cases ht
      · cases ht
    · cases ht
  · cases ht
end
