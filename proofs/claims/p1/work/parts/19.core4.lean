/-! calls -/
section
variable {p : Program} {l : Launch} {e : Env} {R : Room} {s : State} {m : MethodId} {args : Array Value} {below : List Frame} {meth : Method} {c : Code} {H H1 : Heap} {locs locs1 : List Loc} {cells slots : Nat} {Q Q' : State → Prop}
variable {B d nL : Nat} {ad : Nat → Nat} {D : va_G} {cA : Nat → ClassId} {cc : ByteArray} {h : mi_H} {y : Nat}
/-- what the tables say of a method's code -/
theorem mi_callee (hx : p.tables.exec = Jvm.exec) (hT : mi_T s) {y2 : Nat} (hy2 : y2 < mt_ny) {mk : MethodId} {methk : Method} {ck : Code} (hn : s.methodNamed? (mt_nm y2) = some mk) (hm : s.vm.method? mk = some methk) (hc : methk.code = some ck) :
    ck.maxLocals = mt_ml y2 ∧ methk.locks = false ∧ parseMethodDescriptor (mt_nm y2).desc = some methk.sig ∧ (∀ U : State, s.WarmedH U.vm → mi_Kx y2 (mt_by y2) p U mk methk ck (mt_ml y2) ∧ U.plainMethod mk) := by
  obtain ⟨hcode, hpl, hcls, hini⟩ := mt_y_ok hy2
  have hF : ck.code = mt_by y2 ∧ ck.maxLocals = mt_ml y2 ∧ methk.sig.returnType = mt_rt y2 ∧ methk.locks = false ∧ ck.exceptionTable.toList.map (fun h => (h.startPc, h.endPc, h.handlerPc, h.catchType)) = mt_hd y2 ∧ parseMethodDescriptor (mt_nm y2).desc = some methk.sig := by
    rcases hcode with ⟨hc1, hc2⟩ | hc1
    · obtain ⟨meth', c', h1, h2, h3, h4, h5, h6, h7, h8⟩ := Cond.code_spec hn (hT.1 #[] _ hc1)
      cases hm.symm.trans h1
      cases hc.symm.trans h2
      refine ⟨h3, h4, h5, h6, ?_, h8⟩
      have h0 : ck.exceptionTable.size = 0 := by simpa [Array.isEmpty] using h7
      have h9 : ck.exceptionTable.toList = [] := List.eq_nil_of_length_eq_zero (by simpa using h0)
      rw [h9, hc2]
      rfl
    · obtain ⟨m', meth', c', h0, h1, h2, h3, h4, h5, h6, h7, h8⟩ := Cond.codeWith_spec (hT.1 #[] _ hc1)
      cases hn.symm.trans h0
      cases hm.symm.trans h1
      cases hc.symm.trans h2
      exact ⟨h3, h4, h6, h7, h5, h8⟩
  obtain ⟨f1, f2, f3, f4, f5, f6⟩ := hF
  refine ⟨f2, f4, f6, fun U hW => ⟨⟨hx, f1, ?_, f2, fun hi => ?_, f3, f4, f5⟩, ?_⟩⟩
  · rw [hW.alike.findClass, ← hcls]
    exact findClass_of_methodNamed hn
  · rw [(name_of_methodNamed hn hm).1]
    exact hini hi
  · refine State.plainMethod.of_named (x := mt_nm y2) hpl ?_ (meth := methk) ?_
    · have q : (s.setVm U.vm).methodNamed? (mt_nm y2) = some mk := by rw [State.methodNamed?_setVm hW.alike]; exact hn
      exact q
    · rw [hW.alike.method?]
      exact hm
theorem mi_named (hT : mi_T s) {y2 : Nat} (hy2 : y2 < mt_ny) : ∃ mk, s.methodNamed? (mt_nm y2) = some mk := by
  obtain ⟨hcode, -⟩ := mt_y_ok hy2
  rcases hcode with ⟨hc1, -⟩ | hc1
  · exact Cond.code_named (hT.1 #[] _ hc1)
  · obtain ⟨m', -, -, h0, -⟩ := Cond.codeWith_spec (hT.1 #[] _ hc1)
    exact ⟨m', h0⟩
theorem mi_meth (hT : mi_T s) {y2 : Nat} (hy2 : y2 < mt_ny) {mk : MethodId} (hn : s.methodNamed? (mt_nm y2) = some mk) : ∃ methk, s.vm.method? mk = some methk := by
  obtain ⟨hcode, -⟩ := mt_y_ok hy2
  rcases hcode with ⟨hc1, -⟩ | hc1
  · obtain ⟨meth', c', h1, -⟩ := Cond.code_spec hn (hT.1 #[] _ hc1)
    exact ⟨meth', h1⟩
  · obtain ⟨m', meth', c', h0, h1, -⟩ := Cond.codeWith_spec (hT.1 #[] _ hc1)
    cases hn.symm.trans h0
    exact ⟨meth', h1⟩
theorem mi_code (hT : mi_T s) {y2 : Nat} (hy2 : y2 < mt_ny) {mk : MethodId} {methk : Method} (hn : s.methodNamed? (mt_nm y2) = some mk) (hm : s.vm.method? mk = some methk) : ∃ ck, methk.code = some ck ∧ parseMethodDescriptor (mt_nm y2).desc = some methk.sig := by
  obtain ⟨hcode, -⟩ := mt_y_ok hy2
  rcases hcode with ⟨hc1, -⟩ | hc1
  · obtain ⟨meth', c', h1, h2, h3, h4, h5, h6, h7, h8⟩ := Cond.code_spec hn (hT.1 #[] _ hc1)
    cases hm.symm.trans h1
    exact ⟨c', h2, h8⟩
  · obtain ⟨m', meth', c', h0, h1, h2, h3, h4, h5, h6, h7, h8⟩ := Cond.codeWith_spec (hT.1 #[] _ hc1)
    cases hn.symm.trans h0
    cases hm.symm.trans h1
    exact ⟨c', h2, h8⟩
/-- the instruction has linked its method: what is left is the method itself -/
def mi_Lk (p : Program) (l : Launch) (e : Env) (R : Room) (s : State) (m : MethodId) (args : Array Value) (below : List Frame) (meth : Method) (c : Code) (T : State) (locs : List Loc) (cells slots : Nat) (g : JFrame) (rest : List Value) (a : Array Value) (y2 : Nat) : Prop :=
  ∃ (vm₁ : Vm) (mk : MethodId) (methk : Method) (ck : Code), Stand p l e R s m args below meth c (T.setVm vm₁) locs cells slots ∧ s.methodNamed? (mt_nm y2) = some mk ∧ s.vm.method? mk = some methk ∧ methk.code = some ck ∧
    ∀ target, (∀ acts, Steps p.tables e below (doInvoke e ((T.setVm vm₁).setTop { g with stack := rest }) acts mk a).1 target) → Steps p.tables e below (T.setTop g) target
theorem mi_lkV {T : State} (X : Stand p l e R s m args below meth c T locs cells slots) (hexec : p.tables.exec = Jvm.exec) (hT : mi_T s) (hown : s.vm.findClass (mt_cn (mt_oc y)) = some m.cls) {idx y2 : Nat} (hmt : mt_m (mt_oc y) idx = some (y2, 0)) {q : Addr} {cell : Cell} (hcell : T.heap[q]? = some cell) (hobj : cell.vm.isStatics = false) (hcls : s.vm.findClass (mt_cn (mt_oc y2)) = some cell.cls)
    {g : JFrame} (hg : g.method = m) {as rest : List Value} (hlen : as.length = mt_np y2) (hstack : g.stack = as.reverse ++ .ref q :: rest) (hdg : decode c.code g.pc = .ok (.invokevirtual idx, 3)) : mi_Lk p l e R s m args below meth c T locs cells slots g rest (Value.ref q :: as).toArray y2 := by
  obtain ⟨hy2, hlk, hins, hsel⟩ := mt_m0 hmt
  obtain ⟨hny, hnh, hnv, hnp⟩ := mt_y_nm hy2
  obtain ⟨mk, methM, hnamed, hmethM, hstM, habM⟩ := Cond.instanceMethod_spec (hT.1 args _ hins)
  obtain ⟨c2, r2, m2, q1, q2, q3, q4, kP, hkP, hkPi⟩ := Cond.selects_spec (hT.1 args _ hsel)
  cases hcls.symm.trans q1
  cases (State.methodFound?_of_named hnamed ⟨hnh, hnv⟩).symm.trans q2
  cases hnamed.symm.trans q3
  have hselP : selectMethod e.platform s.vm cell.cls mk = .method mk := by rw [Launch.admits_selectMethod X.admits]; exact q4
  obtain ⟨ck, hck, hsig⟩ := mi_code hT hy2 hnamed hmethM
  obtain ⟨vm₁, X₁, hstep₁⟩ := X.invokevirtual hexec hown (hT.1 args _ hlk) hnamed hmethM hstM hkP hkPi ⟨hnh, hnv⟩ (a := q) (cell := cell) hcell
    (fun z h => by rw [h] at hobj; cases hobj) hselP hmethM habM hkP hkPi (g := g) hg (argsL := as) (rest := rest) (hlen.trans (hnp _ hsig)) hstack hdg
  exact ⟨vm₁, mk, methM, ck, X₁, hnamed, hmethM, hck, hstep₁⟩
theorem mi_lkS {T : State} (X : Stand p l e R s m args below meth c T locs cells slots) (hexec : p.tables.exec = Jvm.exec) (hT : mi_T s) (hown : s.vm.findClass (mt_cn (mt_oc y)) = some m.cls) {idx y2 : Nat} (hmt : mt_m (mt_oc y) idx = some (y2, 4))
    {g : JFrame} (hg : g.method = m) {as rest : List Value} (hlen : as.length = mt_np y2) (hstack : g.stack = as.reverse ++ rest) (hdg : decode c.code g.pc = .ok (.invokestatic idx, 3)) : mi_Lk p l e R s m args below meth c T locs cells slots g rest as.toArray y2 := by
  obtain ⟨hy2, hlk, hsta, hini⟩ := mt_m4 hmt
  obtain ⟨hny, hnh, hnv, hnp⟩ := mt_y_nm hy2
  obtain ⟨mk, hnamed⟩ := mi_named hT hy2
  obtain ⟨methM, hmethM⟩ := mi_meth hT hy2 hnamed
  have hstatic : methM.isStatic = true := Cond.static_spec hnamed hmethM (hT.1 args _ hsta)
  obtain ⟨kP, hkP, -⟩ := className_of_methodNamed hnamed
  have hinitP : kP.init = .initialized := Cond.initialized_spec (findClass_of_methodNamed hnamed) hkP (hT.1 args _ hini)
  obtain ⟨ck, hck, hsig⟩ := mi_code hT hy2 hnamed hmethM
  obtain ⟨vm₁, X₁, hstep₁⟩ := X.invokestatic hexec hown (hT.1 args _ hlk) hnamed hmethM hstatic hkP hinitP ⟨hnh, hnv⟩ (g := g) hg (argsL := as) (rest := rest) (hlen.trans (hnp _ hsig)) hstack hdg
  exact ⟨vm₁, mk, methM, ck, X₁, hnamed, hmethM, hck, hstep₁⟩
theorem mi_lkI {T : State} (X : Stand p l e R s m args below meth c T locs cells slots) (hexec : p.tables.exec = Jvm.exec) (hT : mi_T s) (hown : s.vm.findClass (mt_cn (mt_oc y)) = some m.cls) {idx y2 : Nat} (hmt : mt_m (mt_oc y) idx = some (y2, 2)) {q : Addr}
    {g : JFrame} (hg : g.method = m) {as rest : List Value} (hlen : as.length = mt_np y2) (hstack : g.stack = as.reverse ++ .ref q :: rest) (hdg : decode c.code g.pc = .ok (.invokespecial idx, 3)) : mi_Lk p l e R s m args below meth c T locs cells slots g rest (Value.ref q :: as).toArray y2 := by
  subst hg
  obtain ⟨hy2, hlk, hins, hnm, hcode⟩ := mt_m2 hmt
  obtain ⟨hny, hnh, hnv, hnp⟩ := mt_y_nm hy2
  have hpl : e.platform.magicAccessors = ({} : Platform).magicAccessors := by rw [X.admits.platform]
  obtain ⟨mk, methM, cM, kP, vm₁, hnamed, hmethM, hcodeM, -, hlocalsM, -, hkP, -, hW₁, hstep₁⟩ := Steps.initColdArgs (e := e) X.here hexec X.warmed hpl hown hnm ⟨hnh, hnv⟩ (hT.1 args _ hlk) (hT.1 args _ hins) (hT.1 args _ hcode) (f := g) rfl (fun sig h => hlen.trans (hnp sig h)) hstack hdg
  exact ⟨vm₁, mk, methM, cM, X.noted hW₁, hnamed, hmethM, hcodeM, hstep₁⟩
theorem mi_lkIN {T : State} (X : Stand p l e R s m args below meth c T locs cells slots) (hexec : p.tables.exec = Jvm.exec) (hT : mi_T s) (hown : s.vm.findClass (mt_cn (mt_oc y)) = some m.cls) {idx y2 : Nat} (hmt : mt_m (mt_oc y) idx = some (y2, 3)) {q : Addr}
    {g : JFrame} (hg : g.method = m) {as rest : List Value} (hlen : as.length = mt_np y2) (hstack : g.stack = as.reverse ++ .ref q :: rest) (hdg : decode c.code g.pc = .ok (.invokespecial idx, 3)) : mi_Lk p l e R s m args below meth c T locs cells slots g rest (Value.ref q :: as).toArray y2 := by
  subst hg
  obtain ⟨hy2, ⟨host, hlk⟩, hins, hnm, hcode⟩ := mt_m3 hmt
  obtain ⟨hny, hnh, hnv, hnp⟩ := mt_y_nm hy2
  have hz : (Cond.methodLinkNest (mt_cn (mt_oc y)) idx (mt_nm y2) host).before args s = true := va_Nw.use (w := Cond.methodLinkNest (mt_cn (mt_oc y)) idx (mt_nm y2) host) rfl (hT.2.1 (mt_cn (mt_oc y), idx, mt_nm y2, host) hlk)
  have hpl : e.platform.magicAccessors = ({} : Platform).magicAccessors := by rw [X.admits.platform]
  obtain ⟨mk, methM, cM, kP, vm₁, hnamed, hmethM, hcodeM, -, hlocalsM, -, hkP, -, hW₁, hstep₁⟩ := Steps.initColdArgsNest (e := e) X.here hexec X.warmed hpl hown hnm ⟨hnh, hnv⟩ hz (hT.1 args _ hins) (hT.1 args _ hcode) (f := g) rfl (fun sig h => hlen.trans (hnp sig h)) hstack hdg
  exact ⟨vm₁, mk, methM, cM, X.noted hW₁, hnamed, hmethM, hcodeM, hstep₁⟩
end
