/-! handlers, throws; the machine whole -/
theorem mt_ex {ce : Nat} (h1 : 14 ≤ ce) (h2 : ce ≤ 16) : ce = 14 ∨ ce = 15 ∨ ce = 16 := by omega
theorem mt_k_ok {oc ct ce : Nat} {bb : Bool} (h : mt_k oc ct ce = some bb) : ∃ nm, ct ≠ 0 ∧ mt_B (Cond.classLink (mt_cn oc) ct nm) ∧ ∀ s : State, mi_T s → ∀ cx cT, s.vm.findClass (mt_cn ce) = some cx → s.vm.findClass nm = some cT → s.vm.assignable cx cT = bb ∧ ∃ kc, s.vm.classes[cx]? = some kc := by
  unfold mt_k at h
  split at h
  · rename_i cT hcT
    split at h
    · rename_i hg
      obtain ⟨⟨a1, a2⟩, ⟨b1, b2⟩, h0⟩ := hg
      cases h
      refine ⟨mt_cn cT, h0, mt_c_lk hcT, fun s hT cx c2 hx h2 => ⟨?_, Vm.classAt_of_findClass hx⟩⟩
      by_cases e : cT = ce
      · subst e
        cases Option.some.inj (hx.symm.trans h2)
        rw [Vm.assignable_self]
        simp
      · have hN : va_Nc (mt_cn ce) (mt_cn cT) s := by
          refine hT.2.2.1 (mt_cn ce, mt_cn cT) ?_
          rcases mt_ex a1 a2 with rfl | rfl | rfl <;> rcases mt_ex b1 b2 with rfl | rfl | rfl <;> first | exact absurd rfl e | decide
        obtain ⟨c, t, q1, q2, q3⟩ := hN
        cases Option.some.inj (hx.symm.trans q1)
        cases Option.some.inj (h2.symm.trans q2)
        rw [q3]
        simp [e]
    · cases h
  · cases h
/-- the search of a handler by the tables: nothing known; none; the handler's place -/
def mi_hf (oc pc ce : Nat) : List (Nat × Nat × Nat × Nat) → Option (Option Nat)
  | [] => some none
  | (a, z, hp, ct) :: t => if a ≤ pc ∧ pc < z then match mt_k oc ct ce with
      | some true => some (some hp)
      | some false => mi_hf oc pc ce t
      | none => none
    else mi_hf oc pc ce t
section
variable {p : Program} {l : Launch} {e : Env} {R : Room} {s : State} {m : MethodId} {args : Array Value} {below : List Frame} {meth : Method} {c : Code} {H H1 : Heap} {locs locs1 : List Loc} {cells slots : Nat} {Q Q' : State → Prop}
variable {B d nL : Nat} {ad : Nat → Nat} {D : va_G} {cA : Nat → ClassId} {cc : ByteArray} {h : mi_H} {y : Nat}
def mi_hd (o : Option Nat) : Handler := match o with
  | none => .none
  | some hp => .found hp
/-- what the search finds, and the tables that it leaves -/
def mi_Fd (e : Env) (U : State) (f : JFrame) (a : Addr) (t : List ExceptionTableEntry) (hd : Handler) (vm' : Vm) : Prop :=
  ∀ (Qh : Handler → Pre) (E : CtlPost) (dd : Bool) (acts : List Action), wp (findHandler.go f a t) Qh E e dd acts U ↔ Qh hd dd acts (U.setVm vm')
theorem mi_hf_ok (hT : mi_T s) (ha : l.admits e) (hown : s.vm.findClass (mt_cn (mt_oc y)) = some m.cls) {a : Addr} {cell : Cell} {ce : Nat} {f : JFrame} (hf : f.method = m) (hcls : s.vm.findClass (mt_cn ce) = some cell.cls) (hobj : cell.vm.isStatics = false) :
    ∀ (t : List ExceptionTableEntry) (o : Option Nat), mi_hf (mt_oc y) f.pc ce (t.map (fun h => (h.startPc, h.endPc, h.handlerPc, h.catchType))) = some o → ∀ U : State, U.heap[a]? = some cell → s.WarmedH U.vm → ∃ vm', s.WarmedH vm' ∧ mi_Fd e U f a t (mi_hd o) vm' := by
  intro t
  induction t with
  | nil =>
    intro o ho U hU hW
    cases ho
    exact ⟨U.vm, hW, fun Qh E dd acts => W.findHandler_go_nil⟩
  | cons x t ih =>
    intro o ho U hU hW
    simp only [List.map_cons, mi_hf] at ho
    split at ho
    · rename_i hcov
      have hx : covers x f.pc = true := by simp [covers, hcov.1, hcov.2]
      have hpl : e.platform.magicAccessors = ({} : Platform).magicAccessors := by rw [ha.platform]
      cases hk : mt_k (mt_oc y) x.catchType ce with
      | none => rw [hk] at ho; cases ho
      | some bb =>
        rw [hk] at ho
        obtain ⟨nm, h0, hlk, has⟩ := mt_k_ok hk
        obtain ⟨cT, hcT, hcl⟩ := Cond.classLink_spec hown (hT.1 #[] _ hlk) e.platform hpl
        obtain ⟨dk, _, _, kt, hd, _, _, _, _, hkt, _, hopen⟩ := hcl.here
        have hcl₀ := hW.classLinks hcl
        have hW' : s.WarmedH (U.vm.noted m.cls x.catchType (.cls cT)) := hW.noted hd hopen (State.rightAt_cls hcl)
        have hal := hW.alike
        obtain ⟨kt', hkt', -⟩ := hal.2.2 _ _ hkt
        obtain ⟨hasg, kc, hkc⟩ := has s hT cell.cls cT hcls hcT
        obtain ⟨kc', hkc', -⟩ := hal.2.2 _ _ hkc
        have hasU : U.vm.assignable cell.cls cT = bb := by rw [hal.assignable]; exact hasg
        have key := fun (Qh : Handler → Pre) (E : CtlPost) (dd : Bool) (acts : List Action) => mi_go_link (e := e) (t := t) (cT := cT) (cell := cell) (f := f) (a := a) (U := U) (Qh := Qh) (E := E) (dd := dd) (acts := acts) hx h0 (by rw [hf]; exact hcl₀) hU (fun k z => by rw [z] at hobj; cases hobj) ⟨kc', hkc'⟩ ⟨kt', hkt'⟩
        rw [hf] at key
        cases bb with
        | true =>
          cases ho
          refine ⟨_, hW', fun Qh E dd acts => ?_⟩
          rw [key, if_pos hasU]
          exact Iff.rfl
        | false =>
          obtain ⟨vm', h1, h2⟩ := ih o ho (U.setVm (U.vm.noted m.cls x.catchType (.cls cT))) hU hW'
          refine ⟨vm', h1, fun Qh E dd acts => ?_⟩
          rw [key, if_neg (by rw [hasU]; decide)]
          exact h2 Qh E dd acts
    · rename_i hcov
      have hx : covers x f.pc = false := by
        simp only [covers, Bool.and_eq_false_iff, decide_eq_false_iff_not]
        by_cases z : x.startPc ≤ f.pc
        · exact Or.inr (fun w => hcov ⟨z, w⟩)
        · exact Or.inl z
      obtain ⟨vm', h1, h2⟩ := ih o ho U hU hW
      refine ⟨vm', h1, fun Qh E dd acts => ?_⟩
      rw [W.findHandler_go_skip hx]
      exact h2 Qh E dd acts
/-- an exception at the caller's call: into its handler, or out of it -/
theorem mi_thrown {T : State} (X : Stand p l e R s m args below meth c T locs cells slots) (hT : mi_T s) (K : mi_Kx y cc p s m meth c nL) {a : Addr} {cell : Cell} {ce : Nat} {g : JFrame} (hg : g.method = m) (hlocked : g.locked = none) (hentered : g.entered = []) (hcell : T.heap[a]? = some cell) (hcls : s.vm.findClass (mt_cn ce) = some cell.cls) (hobj : cell.vm.isStatics = false) {o : Option Nat} (ho : mi_hf (mt_oc y) g.pc ce (mt_hd y) = some o) :
    ∃ vm', Stand p l e R s m args below meth c (T.setVm vm') locs cells slots ∧ match o with
      | some hp => ∀ target, Steps p.tables e below ((T.setVm vm').setTop { g with pc := hp, stack := [.ref a] }) target → Steps p.tables e below ((T.setTop g).pushFrame (.throwing a)) target
      | none => Steps p.tables e below ((T.setTop g).pushFrame (.throwing a)) ((T.setVm vm').setFrames (.throwing a :: below)) := by
  rw [← K.2.2.2.2.2.2.2] at ho
  obtain ⟨vm', hW', hF⟩ := mi_hf_ok (e := e) (l := l) (f := g) (a := a) (cell := cell) hT X.admits K.own hg hcls hobj c.exceptionTable.toList o ho ((T.setTop g).pushFrame (.throwing a)) (by rw [Stand.throwing_heap]; exact hcell) (by rw [Stand.throwing_vm]; exact X.warmed)
  refine ⟨vm', X.noted hW', ?_⟩
  subst hg
  have hAt : At T g.method c below := X.here
  have hFi : ∀ (Qh : Handler → Pre) (E : CtlPost) (dd : Bool) (acts : List Action), wp (findHandler g a) Qh E e dd acts ((T.setTop g).pushFrame (.throwing a)) ↔ Qh (mi_hd o) dd acts (((T.setTop g).pushFrame (.throwing a)).setVm vm') := by
    intro Qh E dd acts
    rw [W.findHandler_eq (meth := meth) (code := c) (by rw [Stand.throwing_vm]; exact X.method') X.code]
    exact hF Qh E dd acts
  obtain ⟨hgo, hw⟩ := hAt.throwing a
  obtain ⟨g₀, hg0⟩ := Option.isSome_iff_exists.mp hAt.top
  obtain ⟨r, hr⟩ := State.topJava?_eq_some.mp hg0
  have hr' : (T.setVm vm').frames = .java g₀ :: r := hr
  have htl : r = below := by have := X.tail; rw [hr] at this; exact this
  have hpu : ((T.setTop g).pushFrame (.throwing a)) = T.setFrames (.throwing a :: .java g :: r) := by
    rw [State.pushFrame, State.frames_setTop _ hr, State.setTop_of_frames _ hr, State.setFrames_setFrames]
  cases o with
  | some hp =>
    intro target hrest
    refine Steps.head hgo hw ?_
    have hst : (stepThrowing e ((T.setTop g).pushFrame (.throwing a)) a (.java g :: r)).Is ((((T.setTop g).pushFrame (.throwing a)).setVm vm').setFrames (.java { g with pc := hp, stack := [.ref a] } :: r)) [] := by
      simp only [stepThrowing, searchFrame, vmDo]
      generalize hr9 : Sem.go _ e false [] ((T.setTop g).pushFrame (.throwing a)) = res
      obtain ⟨as, rfl, ha⟩ := Sem.eq_ok_of hr9 (a := Handler.found hp) (s' := ((T.setTop g).pushFrame (.throwing a)).setVm vm') (acts' := []) (by simp [hFi _ _ _ _, mi_hd])
      exact ⟨rfl, ha⟩
    have hfe : ((T.setTop g).pushFrame (.throwing a)).frames = .throwing a :: .java g :: r := by
      rw [frames_entered hAt.top, hr]; rfl
    rw [stepThread_throwing hfe, hst.1, hpu]
    have e1 : ((T.setFrames (.throwing a :: .java g :: r)).setVm vm').setFrames (.java { g with pc := hp, stack := [.ref a] } :: r) = (T.setVm vm').setTop { g with pc := hp, stack := [.ref a] } := by
      rw [State.setTop_of_frames _ hr']
      show ((T.setVm vm').setFrames _).setFrames _ = _
      rw [State.setFrames_setFrames]
    rw [e1]
    exact hrest
  | none =>
    refine Steps.head hgo hw ?_
    have hlk : meth.locks = false := K.2.2.2.2.2.2.1
    have hst : (stepThrowing e ((T.setTop g).pushFrame (.throwing a)) a (.java g :: r)).Is ((((T.setTop g).pushFrame (.throwing a)).setVm vm').setFrames (.throwing a :: r)) [] := by
      have hm' : vm'.method? g.method = some meth := (X.noted hW').method'
      simp only [stepThrowing, searchFrame, vmDo]
      generalize hr9 : Sem.go _ e false [] ((T.setTop g).pushFrame (.throwing a)) = res
      obtain ⟨as, rfl, ha⟩ := Sem.eq_ok_of hr9 (a := Handler.none) (s' := ((T.setTop g).pushFrame (.throwing a)).setVm vm') (acts' := [])
        (by cases hp : e.platform.frameOwnsMonitors <;> simp [hFi _ _ _ _, mi_hd, hm', hlk, hlocked, hentered, hp, leaveIfLocked])
      exact ⟨rfl, ha⟩
    have hfe : ((T.setTop g).pushFrame (.throwing a)).frames = .throwing a :: .java g :: r := by
      rw [frames_entered hAt.top, hr]; rfl
    rw [stepThread_throwing hfe, hst.1, hpu]
    have e1 : ((T.setFrames (.throwing a :: .java g :: r)).setVm vm').setFrames (.throwing a :: r) = (T.setVm vm').setFrames (.throwing a :: below) := by
      show ((T.setVm vm').setFrames _).setFrames _ = _
      rw [State.setFrames_setFrames, htl]
    rw [e1]
    exact Steps.refl _
end
