/-! throw new X("text") -/
section
variable {p : Program} {l : Launch} {e : Env} {R : Room} {s : State} {m : MethodId} {args : Array Value} {below : List Frame} {meth : Method} {c : Code} {H H1 : Heap} {locs locs1 : List Loc} {cells slots : Nat} {Q Q' : State → Prop}
variable {B d nL : Nat} {ad : Nat → Nat} {D : va_G} {cA : Nat → ClassId} {cc : ByteArray} {h : mi_H} {y : Nat}
/-- the same walk, begun where it stands now -/
theorem mi_rebase {T : State} (X : Stand p l e R s m args below meth c T locs cells slots) {R' : Room} (hf : R'.frames ≤ R.frames) (hl : R'.locals ≤ R.locals) (hc : cells + R'.cells ≤ R.cells) (hs : slots + R'.slots ≤ R.slots) :
    Stand p l e R' (T.setFrames (.invoking m args :: below)) m args below meth c T [] 0 0 := by
  obtain ⟨g₀, hfr⟩ := X.frames_eq
  have hcur : T.cur < T.threads.size := State.cur_lt_of_frames hfr
  obtain ⟨th, hth, -⟩ := State.frames_cons hfr
  have hfs : (T.setFrames (.invoking m args :: below)).frames = .invoking m args :: below := State.frames_setFrames _ hcur
  have hlim : e.platform.stackLimits (T.setFrames (.invoking m args :: below)).me = e.platform.stackLimits s.me := by rw [State.stackLimits_setFrames]; exact X.limits
  have hby : (T.setFrames (.invoking m args :: below)).me.stackBytes = s.me.stackBytes := by rw [State.stackBytes_setFrames]; exact X.bytes
  have hmeth : (T.setFrames (.invoking m args :: below)).vm.method? m = some meth := X.method'
  have hroom : (T.setFrames (.invoking m args :: below)).hasRoom e.platform R' = true := by
    have hr := X.room
    have hlo := State.localsInUse_invoking X.frames X.method X.code
    have hlo2 := State.localsInUse_invoking hfs hmeth X.code
    obtain ⟨h1, h2⟩ := X.heapHas (a := R'.cells) (b := R'.slots) hc hs
    simp only [State.hasRoom, Bool.and_eq_true, decide_eq_true_eq] at hr ⊢
    obtain ⟨⟨⟨⟨r1, r2, r3, r4, r5, r6⟩, r7⟩, r8⟩, r9⟩ := hr
    rw [hlo] at r1 r4 r5
    rw [X.frames] at r2 r3
    rw [hlo2, hfs, hlim, hby]
    refine ⟨⟨⟨⟨by omega, by omega, by omega, by omega, by omega, r6⟩, h1⟩, h2⟩, ?_⟩
    exact X.book
  refine ⟨X.admits, X.cas, X.clock, hfs, hroom, ?_, hmeth, X.code, X.here, X.tail, State.WarmedH.refl _, ?_, ?_, ?_⟩
  · have hh := X.hears
    unfold State.hears at hh ⊢
    cases below with
    | nil =>
      dsimp only at hh ⊢
      rw [X.method] at hh
      rw [hmeth]
      exact hh
    | cons f r =>
      cases f with
      | java g =>
        dsimp only at hh ⊢
        have e1 : (T.setFrames (.invoking m args :: .java g :: r)).code? g.method = s.code? g.method := by
          rw [State.code?_eq, State.code?_eq]
          show (T.vm.method? g.method).bind _ = _
          rw [X.warmed.alike.method?]
        rw [e1]
        exact hh
      | native g => exact hh
      | proc g => exact hh
      | _ =>
        dsimp only at hh ⊢
        rw [X.method] at hh
        rw [hmeth]
        exact hh
  · rw [State.stackLimits_setFrames]
  · rw [State.stackBytes_setFrames]
  · have h1 := (State.sameButNew.refl (T.setFrames (.invoking m args :: below)) (x := (T.setFrames (.invoking m args :: below)).threads[(T.setFrames (.invoking m args :: below)).cur]'(by sorry)) (by sorry)).setFrames T.frames (by sorry)
    have e1 : (T.setFrames (.invoking m args :: below)).setFrames T.frames = T := by rw [State.setFrames_setFrames, State.setFrames_self hth]
    rw [e1] at h1
    exact h1
end
