/-! the law's start, by a program (wip/whole/prog/start.py) -/
set_option maxRecDepth 100000 in
theorem mt_ins : ∀ q ∈ mt_cl, ∃ n, Cond.instantiable q.1 n ∈ lw_tbl := List.forall_mem_cons.mpr ⟨⟨_, (lw_in1 (List.mem_of_getElem? (i := 29) rfl))⟩, List.forall_mem_cons.mpr ⟨⟨_, (lw_in1 (List.mem_of_getElem? (i := 37) rfl))⟩, List.forall_mem_cons.mpr ⟨⟨_, (lw_in1 (List.mem_of_getElem? (i := 72) rfl))⟩, List.forall_mem_cons.mpr ⟨⟨_, (lw_in1 (List.mem_of_getElem? (i := 156) rfl))⟩, List.forall_mem_cons.mpr ⟨⟨_, (lw_in1 (List.mem_of_getElem? (i := 162) rfl))⟩, List.forall_mem_cons.mpr ⟨⟨_, (lw_in1 (List.mem_of_getElem? (i := 213) rfl))⟩, List.forall_mem_cons.mpr ⟨⟨_, (lw_in1 (List.mem_of_getElem? (i := 227) rfl))⟩, List.forall_mem_cons.mpr ⟨⟨_, (lw_in2 (List.mem_of_getElem? (i := 20) rfl))⟩, List.forall_mem_cons.mpr ⟨⟨_, (lw_in2 (List.mem_of_getElem? (i := 26) rfl))⟩, List.forall_mem_cons.mpr ⟨⟨_, (lw_in2 (List.mem_of_getElem? (i := 70) rfl))⟩, List.forall_mem_cons.mpr ⟨⟨_, (lw_in2 (List.mem_of_getElem? (i := 108) rfl))⟩, List.forall_mem_cons.mpr ⟨⟨_, (lw_in2 (List.mem_of_getElem? (i := 159) rfl))⟩, List.forall_mem_cons.mpr ⟨⟨_, (lw_in5 (List.mem_of_getElem? (i := 167) rfl))⟩, List.forall_mem_cons.mpr ⟨⟨_, (lw_in5 (List.mem_of_getElem? (i := 199) rfl))⟩, List.forall_mem_cons.mpr ⟨⟨_, (lw_in3 (List.mem_of_getElem? (i := 21) rfl))⟩, List.forall_mem_cons.mpr ⟨⟨_, (lw_in3 (List.mem_of_getElem? (i := 117) rfl))⟩, List.forall_mem_cons.mpr ⟨⟨_, (lw_in4 (List.mem_of_getElem? (i := 120) rfl))⟩, fun _ h => absurd h List.not_mem_nil⟩⟩⟩⟩⟩⟩⟩⟩⟩⟩⟩⟩⟩⟩⟩⟩⟩
set_option maxRecDepth 100000 in
theorem mt_nest_in : ∀ q ∈ mt_nest, Cond.methodLinkNest q.1 q.2.1 q.2.2.1 q.2.2.2 ∈ lw_tbl := List.forall_mem_cons.mpr ⟨(lw_in1 (List.mem_of_getElem? (i := 38) rfl)), List.forall_mem_cons.mpr ⟨(lw_in1 (List.mem_of_getElem? (i := 73) rfl)), List.forall_mem_cons.mpr ⟨(lw_in1 (List.mem_of_getElem? (i := 214) rfl)), List.forall_mem_cons.mpr ⟨(lw_in1 (List.mem_of_getElem? (i := 228) rfl)), List.forall_mem_cons.mpr ⟨(lw_in2 (List.mem_of_getElem? (i := 27) rfl)), List.forall_mem_cons.mpr ⟨(lw_in2 (List.mem_of_getElem? (i := 71) rfl)), List.forall_mem_cons.mpr ⟨(lw_in2 (List.mem_of_getElem? (i := 165) rfl)), List.forall_mem_cons.mpr ⟨(lw_in2 (List.mem_of_getElem? (i := 170) rfl)), List.forall_mem_cons.mpr ⟨(lw_in2 (List.mem_of_getElem? (i := 216) rfl)), List.forall_mem_cons.mpr ⟨(lw_in5 (List.mem_of_getElem? (i := 200) rfl)), fun _ h => absurd h List.not_mem_nil⟩⟩⟩⟩⟩⟩⟩⟩⟩⟩
set_option maxRecDepth 100000 in
theorem mt_ovs_in : ∀ C ∈ mt_ovs, Cond.arrayOver (.object C) ∈ lw_tbl := List.forall_mem_cons.mpr ⟨(lw_in2 (List.mem_of_getElem? (i := 167) rfl)), List.forall_mem_cons.mpr ⟨(lw_in5 (List.mem_of_getElem? (i := 173) rfl)), List.forall_mem_cons.mpr ⟨(lw_in5 (List.mem_of_getElem? (i := 233) rfl)), fun _ h => absurd h List.not_mem_nil⟩⟩⟩
set_option maxRecDepth 100000 in
theorem mt_sr_in : ∀ q ∈ mt_sr, Cond.stringRef (mt_cn q.1) q.2.1 q.2.2.2 ∈ lw_tbl := List.forall_mem_cons.mpr ⟨(lw_in3 (List.mem_of_getElem? (i := 61) rfl)), List.forall_mem_cons.mpr ⟨(lw_in3 (List.mem_of_getElem? (i := 99) rfl)), List.forall_mem_cons.mpr ⟨(lw_in3 (List.mem_of_getElem? (i := 125) rfl)), List.forall_mem_cons.mpr ⟨(lw_in3 (List.mem_of_getElem? (i := 158) rfl)), List.forall_mem_cons.mpr ⟨(lw_in4 (List.mem_of_getElem? (i := 73) rfl)), List.forall_mem_cons.mpr ⟨(lw_in4 (List.mem_of_getElem? (i := 82) rfl)), List.forall_mem_cons.mpr ⟨(lw_in4 (List.mem_of_getElem? (i := 87) rfl)), List.forall_mem_cons.mpr ⟨(lw_in4 (List.mem_of_getElem? (i := 99) rfl)), List.forall_mem_cons.mpr ⟨(lw_in4 (List.mem_of_getElem? (i := 128) rfl)), List.forall_mem_cons.mpr ⟨(lw_in5 (List.mem_of_getElem? (i := 70) rfl)), List.forall_mem_cons.mpr ⟨(lw_in5 (List.mem_of_getElem? (i := 71) rfl)), List.forall_mem_cons.mpr ⟨(lw_in5 (List.mem_of_getElem? (i := 79) rfl)), List.forall_mem_cons.mpr ⟨(lw_in5 (List.mem_of_getElem? (i := 87) rfl)), List.forall_mem_cons.mpr ⟨(lw_in5 (List.mem_of_getElem? (i := 152) rfl)), List.forall_mem_cons.mpr ⟨(lw_in5 (List.mem_of_getElem? (i := 153) rfl)), List.forall_mem_cons.mpr ⟨(lw_in5 (List.mem_of_getElem? (i := 161) rfl)), List.forall_mem_cons.mpr ⟨(lw_in5 (List.mem_of_getElem? (i := 174) rfl)), List.forall_mem_cons.mpr ⟨(lw_in5 (List.mem_of_getElem? (i := 175) rfl)), List.forall_mem_cons.mpr ⟨(lw_in5 (List.mem_of_getElem? (i := 176) rfl)), List.forall_mem_cons.mpr ⟨(lw_in5 (List.mem_of_getElem? (i := 177) rfl)), List.forall_mem_cons.mpr ⟨(lw_in5 (List.mem_of_getElem? (i := 178) rfl)), List.forall_mem_cons.mpr ⟨(lw_in5 (List.mem_of_getElem? (i := 179) rfl)), List.forall_mem_cons.mpr ⟨(lw_in5 (List.mem_of_getElem? (i := 180) rfl)), List.forall_mem_cons.mpr ⟨(lw_in5 (List.mem_of_getElem? (i := 181) rfl)), List.forall_mem_cons.mpr ⟨(lw_in5 (List.mem_of_getElem? (i := 182) rfl)), List.forall_mem_cons.mpr ⟨(lw_in5 (List.mem_of_getElem? (i := 183) rfl)), List.forall_mem_cons.mpr ⟨(lw_in5 (List.mem_of_getElem? (i := 184) rfl)), List.forall_mem_cons.mpr ⟨(lw_in5 (List.mem_of_getElem? (i := 185) rfl)), List.forall_mem_cons.mpr ⟨(lw_in5 (List.mem_of_getElem? (i := 186) rfl)), List.forall_mem_cons.mpr ⟨(lw_in5 (List.mem_of_getElem? (i := 187) rfl)), List.forall_mem_cons.mpr ⟨(lw_in5 (List.mem_of_getElem? (i := 188) rfl)), List.forall_mem_cons.mpr ⟨(lw_in5 (List.mem_of_getElem? (i := 189) rfl)), List.forall_mem_cons.mpr ⟨(lw_in5 (List.mem_of_getElem? (i := 190) rfl)), List.forall_mem_cons.mpr ⟨(lw_in5 (List.mem_of_getElem? (i := 191) rfl)), List.forall_mem_cons.mpr ⟨(lw_in5 (List.mem_of_getElem? (i := 192) rfl)), List.forall_mem_cons.mpr ⟨(lw_in5 (List.mem_of_getElem? (i := 193) rfl)), List.forall_mem_cons.mpr ⟨(lw_in5 (List.mem_of_getElem? (i := 194) rfl)), List.forall_mem_cons.mpr ⟨(lw_in5 (List.mem_of_getElem? (i := 195) rfl)), List.forall_mem_cons.mpr ⟨(lw_in5 (List.mem_of_getElem? (i := 196) rfl)), List.forall_mem_cons.mpr ⟨(lw_in5 (List.mem_of_getElem? (i := 197) rfl)), List.forall_mem_cons.mpr ⟨(lw_in7 (List.mem_of_getElem? (i := 86) rfl)), List.forall_mem_cons.mpr ⟨(lw_in7 (List.mem_of_getElem? (i := 95) rfl)), List.forall_mem_cons.mpr ⟨(lw_in7 (List.mem_of_getElem? (i := 132) rfl)), List.forall_mem_cons.mpr ⟨(lw_in7 (List.mem_of_getElem? (i := 133) rfl)), List.forall_mem_cons.mpr ⟨(lw_in7 (List.mem_of_getElem? (i := 134) rfl)), List.forall_mem_cons.mpr ⟨(lw_in7 (List.mem_of_getElem? (i := 135) rfl)), List.forall_mem_cons.mpr ⟨(lw_in7 (List.mem_of_getElem? (i := 152) rfl)), List.forall_mem_cons.mpr ⟨(lw_in7 (List.mem_of_getElem? (i := 153) rfl)), List.forall_mem_cons.mpr ⟨(lw_in7 (List.mem_of_getElem? (i := 154) rfl)), List.forall_mem_cons.mpr ⟨(lw_in7 (List.mem_of_getElem? (i := 155) rfl)), List.forall_mem_cons.mpr ⟨(lw_in7 (List.mem_of_getElem? (i := 156) rfl)), List.forall_mem_cons.mpr ⟨(lw_in7 (List.mem_of_getElem? (i := 161) rfl)), List.forall_mem_cons.mpr ⟨(lw_in7 (List.mem_of_getElem? (i := 162) rfl)), fun _ h => absurd h List.not_mem_nil⟩⟩⟩⟩⟩⟩⟩⟩⟩⟩⟩⟩⟩⟩⟩⟩⟩⟩⟩⟩⟩⟩⟩⟩⟩⟩⟩⟩⟩⟩⟩⟩⟩⟩⟩⟩⟩⟩⟩⟩⟩⟩⟩⟩⟩⟩⟩⟩⟩⟩⟩⟩⟩
theorem mt_ls_UN : Cond.laysStatic "java/lang/Throwable" "UNASSIGNED_STACK" "[Ljava/lang/StackTraceElement;" ∈ lw_tbl := (lw_in3 (List.mem_of_getElem? (i := 47) rfl))
theorem mt_ls_SU : Cond.laysStatic "java/lang/Throwable" "SUPPRESSED_SENTINEL" "Ljava/util/List;" ∈ lw_tbl := (lw_in3 (List.mem_of_getElem? (i := 49) rfl))
theorem mt_ls_CS : Cond.laysStatic "java/lang/String" "COMPACT_STRINGS" "Z" ∈ lw_tbl := (lw_in3 (List.mem_of_getElem? (i := 168) rfl))
theorem mt_ls_FM : Cond.laysStatic "jdk/internal/util/Preconditions" "SIOOBE_FORMATTER" "Ljava/util/function/BiFunction;" ∈ lw_tbl := (lw_in3 (List.mem_of_getElem? (i := 176) rfl))
theorem mt_ini_S : Cond.initialized "java/lang/String" ∈ lw_tbl := (lw_in1 (List.mem_of_getElem? (i := 21) rfl))
theorem mt_ini_P : Cond.initialized "jdk/internal/util/Preconditions" ∈ lw_tbl := (lw_in1 (List.mem_of_getElem? (i := 23) rfl))
def mt_law : Nat := 204
def mt_gn : List Cond := flatC (Cond.and given_1 narrow_1)
def mt_sq (q : Nat × Nat × Nat × String) : List Cond :=
  .exactly (.string (mt_cn q.1) q.2.1) "java/lang/String" :: .eq (.field (.string (mt_cn q.1) q.2.1) "java/lang/String" "coder" "B") (.int 0) :: .arrayOf (.field (.string (mt_cn q.1) q.2.1) "java/lang/String" "value" "[B") .byte :: .eq (.length (.field (.string (mt_cn q.1) q.2.1) "java/lang/String" "value" "[B")) (.int (Int32.ofNat (mt_sl.getD q.2.2.1 0))) :: (List.range (mt_sl.getD q.2.2.1 0)).map (fun j => Cond.eq (.elem (.field (.string (mt_cn q.1) q.2.1) "java/lang/String" "value" "[B") (.int (Int32.ofNat j))) (.int ((mt_sb.getD q.2.2.1 []).getD j 0)))
def mt_sub : List Cond → List Cond → Bool
  | [], _ => true
  | _ :: _, [] => false
  | a :: as, b :: bs => if a = b then mt_sub as bs else mt_sub (a :: as) bs
theorem mt_sub_ok : ∀ (bs as : List Cond), mt_sub as bs = true → ∀ w ∈ as, w ∈ bs := by
  intro bs
  induction bs with
  | nil =>
    intro as h w hw
    cases as with
    | nil => cases hw
    | cons a as => cases h
  | cons b bs ih =>
    intro as h w hw
    cases as with
    | nil => cases hw
    | cons a as =>
      unfold mt_sub at h
      split at h
      · rename_i e
        subst e
        rcases List.mem_cons.mp hw with rfl | hw
        · exact List.mem_cons_self
        · exact List.mem_cons_of_mem _ (ih as h w hw)
      · exact List.mem_cons_of_mem _ (ih _ h w hw)
set_option maxRecDepth 1000000 in
theorem mt_strs : mt_sub (mt_sr.flatMap mt_sq) mt_gn = true := by decide +kernel
set_option maxRecDepth 1000000 in
theorem mt_nc_in : mt_nc.all (fun q => decide (Cond.not (.castable q.1 q.2) ∈ mt_gn.take 100)) = true := by decide +kernel
theorem mt_gn1 : Cond.isRef (.static "java/lang/Throwable" "UNASSIGNED_STACK" "[Ljava/lang/StackTraceElement;") ∈ mt_gn.take 20 := by decide +kernel
theorem mt_gn2 : Cond.isRef (.static "java/lang/Throwable" "SUPPRESSED_SENTINEL" "Ljava/util/List;") ∈ mt_gn.take 20 := by decide +kernel
theorem mt_gn3 : Cond.eq (.static "java/lang/String" "COMPACT_STRINGS" "Z") (.int 1) ∈ mt_gn.take 20 := by decide +kernel
theorem mt_gn4 : Cond.isRef (.static "jdk/internal/util/Preconditions" "SIOOBE_FORMATTER" "Ljava/util/function/BiFunction;") ∈ mt_gn.take 20 := by decide +kernel
theorem mt_sr_at : (List.range mt_ns).all (fun n => decide ((mt_sr[n]?).map (fun q => q.2.2.1) = some n)) = true := by decide +kernel
theorem mt_sl_lt : (List.range mt_ns).all (fun n => decide (mt_sl.getD n 0 < 2147483648)) = true := by decide +kernel
section
variable {s : State} {A : Array Value}
theorem mi_Zs.of {C n d : String} (hl : (Cond.laysStatic C n d).before A s = true) (h : (Cond.isRef (.static C n d)).before A s = true) : mi_Zs C n d s.heap.size s s.heap := by
  obtain ⟨c, k, i, f, a, cell, hc, hi, hst, ha, hcell, hs, hcls, hlt, hty⟩ := Cond.laysStatic_spec hl
  cases hv : (Term.static C n d).eval A s none [] s with
  | none => simp [Cond.before, Cond.holds, Cond.value, hv] at h
  | some w =>
    obtain ⟨hst', a', cell', ha', hcell', -, hslot⟩ := Term.static_spec hi hv
    cases ha.symm.trans ha'
    cases hcell.symm.trans hcell'
    refine ⟨c, k, i, f, a, cell, w, hc, hi, hst, ha, ⟨hcell, Nat.not_le.mpr (Array.getElem?_eq_some_iff.mp hcell).1⟩, hs, hcls, hlt, hty, hslot, ?_⟩
    simp only [Cond.before, Cond.holds, Cond.value, hv] at h
    cases w <;> first | rfl | (simp at h)
theorem mt_ar_prim {ty : FieldType} (h : (Cond.arrayClass ty).before A s = true) : ∃ c : ClassId, ArrOfT s c ty ∧ s.vm.findClass ("[" ++ ty.toString) = some c := by
  obtain ⟨c, k, comp, h1, h2, h3⟩ := Cond.arrayClass_spec h
  exact ⟨c, fun n z => ⟨fun k h => (by cases h), k, h2, comp, h3⟩, h1⟩
theorem mt_ar_obj {C : String} (h : va_AO C s) : ∃ c : ClassId, ArrOfT s c (.object C) ∧ va_RA s c (.object C) := by
  obtain ⟨comp, c, k, h1, -, h3, h4, h5⟩ := Cond.arrayOver_spec h
  exact ⟨c, fun n z => ⟨fun k h => (by cases h), k, h3, comp, h4⟩, k, comp, h3, h4, h1, h5⟩
/-- a text n: where it lies -/
def mi_tx0 (s : State) (n : Nat) (q : Nat × Nat) : Prop := va_O "java/lang/String" q.1 (fun z => s.heap.size ≤ z) s s.heap ∧ va_OF "java/lang/String" "coder" "B" (.int 0) q.1 (fun z => s.heap.size ≤ z) s s.heap ∧ va_OF "java/lang/String" "value" "[B" (.ref q.2) q.1 (fun z => s.heap.size ≤ z) s s.heap ∧ va_T .byte q.2 (mt_sl.getD n 0) (fun j => .int ((mt_sb.getD n []).getD j 0)) (fun z => s.heap.size ≤ z) s s.heap
theorem mi_texts (hts : ∀ w ∈ lw_tbl, w.before A s = true) (hfl : ∀ w ∈ mt_gn, w.before A s = true) (n : Nat) (hn : n < mt_ns) : ∃ q : Nat × Nat, mi_tx0 s n q ∧ ∀ r ∈ mt_sr, r.2.2.1 = n → vk_R (mt_cn r.1) r.2.1 r.2.2.2 q.1 s := by
  have h0 := List.all_eq_true.mp mt_sr_at n (List.mem_range.mpr hn)
  rw [decide_eq_true_eq] at h0
  cases hr : mt_sr[n]? with
  | none => rw [hr] at h0; cases h0
  | some r =>
    rw [hr] at h0
    have hrn : r.2.2.1 = n := Option.some.inj h0
    have hmem : r ∈ mt_sr := List.mem_of_getElem? hr
    have hin : ∀ w ∈ mt_sq r, w.before A s = true := fun w hw => hfl w (mt_sub_ok _ _ mt_strs w (List.mem_flatMap.mpr ⟨r, hmem, hw⟩))
    have hlt := List.all_eq_true.mp mt_sl_lt n (List.mem_range.mpr hn)
    rw [decide_eq_true_eq] at hlt
    subst hrn
    have w1 := hin _ List.mem_cons_self
    have w2 := hin _ (List.mem_cons_of_mem _ List.mem_cons_self)
    have w3 := hin _ (List.mem_cons_of_mem _ (List.mem_cons_of_mem _ List.mem_cons_self))
    have w4 := hin _ (List.mem_cons_of_mem _ (List.mem_cons_of_mem _ (List.mem_cons_of_mem _ List.mem_cons_self)))
    have w5 : ∀ j, j < mt_sl.getD r.2.2.1 0 → _ := fun j hj => hin _ (List.mem_cons_of_mem _ (List.mem_cons_of_mem _ (List.mem_cons_of_mem _ (List.mem_cons_of_mem _ (List.mem_map.mpr ⟨j, List.mem_range.mpr hj, rfl⟩)))))
    obtain ⟨adK, adV, ⟨g1, -⟩, g2⟩ := vk_Sof (args := A) (s := s) (N := 1) (tm := fun _ => .string (mt_cn r.1) r.2.1) (len := [mt_sl.getD r.2.2.1 0]) (byt := [mt_sb.getD r.2.2.1 []]) (A := fun z => s.heap.size ≤ z)
      (fun i hi => by obtain rfl : i = 0 := Nat.lt_one_iff.mp hi; exact hlt) (fun i _ => w1) (fun i _ => w2) (fun i _ => w3)
      (fun i hi => by obtain rfl : i = 0 := Nat.lt_one_iff.mp hi; exact w4) (fun i hi => by obtain rfl : i = 0 := Nat.lt_one_iff.mp hi; exact w5) (fun i j hi hj hne => absurd ((Nat.lt_one_iff.mp hi).trans (Nat.lt_one_iff.mp hj).symm) hne) (fun a ha hb => absurd ha (Nat.not_lt.mpr hb))
    have ev := g2 0 Nat.one_pos
    refine ⟨(adK 0, adV 0), g1 0 Nat.one_pos, fun r' hr' e => ?_⟩
    obtain ⟨j, hj⟩ := List.getElem?_of_mem hr'
    have hjl : j < mt_ns := by
      have := (List.getElem?_eq_some_iff.mp hj).1
      have e2 : mt_sr.length = mt_ns := by decide +kernel
      omega
    have h1 := List.all_eq_true.mp mt_sr_at j (List.mem_range.mpr hjl)
    rw [decide_eq_true_eq, hj] at h1
    have hjn : r'.2.2.1 = j := Option.some.inj h1
    have : j = r.2.2.1 := hjn.symm.trans e
    subst this
    cases hj.symm.trans hr
    exact vk_R.of (hts _ (mt_sr_in _ hmem)) ev
theorem mi_start {b L : Nat} {xs : Nat → Int32} (hts : ∀ w ∈ lw_tbl, w.before A s = true) (hg : (Jvm.Cond.and given_1 narrow_1).before A s = true) (hX : va_X b L xs s s.heap) (hb : b < s.heap.size) :
    ∃ (ad : Nat → Nat) (D : va_G) (cA : Nat → ClassId), mi_I s.heap.size ad D cA (0, 0, mi_fo L xs) s s.heap [] 0 ∧ ad mi_SC = b := by
  have hfl : ∀ w ∈ mt_gn, w.before A s = true := flat_of_before _ hg
  have hft : ∀ {k : Nat} {w : Cond}, w ∈ mt_gn.take k → w.before A s = true := fun hw => hfl _ (List.mem_of_mem_take hw)
  have hA : ∀ a : Nat, a < s.heap.size → ¬ (fun z => s.heap.size ≤ z) a := fun a ha hb => absurd ha (Nat.not_lt.mpr hb)
  have hK : ∀ ci : Nat, ∃ x : ClassId × (Nat → Nat), ∀ q, mt_cl[ci]? = some q → u_Kn s q.1 q.2.1 q.2.2 x.1 x.2 := by
    intro ci
    cases hc : mt_cl[ci]? with
    | none => exact ⟨(0, fun _ => 0), fun q hq => by cases hq⟩
    | some q =>
      obtain ⟨n, hn⟩ := mt_ins _ (List.mem_of_getElem? hc)
      obtain ⟨cC, iS, h⟩ := u_known (ws := lw_tbl) hts (fun w hw => ((mt_cls_ok ci q hc).2.2.2.2.2 w hw).1) (hts _ hn)
      exact ⟨(cC, iS), fun q' hq' => by cases hq'; exact h⟩
  obtain ⟨kk, hkk⟩ := Classical.axiomOfChoice hK
  have hAO : ∀ C ∈ mt_ovs, va_AO C s := fun C hC => va_AO.of (hts _ (mt_ovs_in C hC))
  have hR : ∀ k : Nat, ∃ c : ClassId, k < mt_na → ArrOfT s c (mt_at k) ∧ va_RA s c (mt_at k) := by
    intro k
    by_cases hk : k < mt_na
    · have h7 : k = 0 ∨ k = 1 ∨ k = 2 ∨ k = 3 ∨ k = 4 ∨ k = 5 ∨ k = 6 := by
        have : k < 7 := hk
        omega
      rcases h7 with rfl | rfl | rfl | rfl | rfl | rfl | rfl
      · obtain ⟨c, h1, h2⟩ := mt_ar_prim (hts _ mt_arr_int.1); exact ⟨c, fun _ => ⟨h1, h2⟩⟩
      · obtain ⟨c, h1, h2⟩ := mt_ar_prim (hts _ mt_arr_byte.1); exact ⟨c, fun _ => ⟨h1, h2⟩⟩
      · obtain ⟨c, h1, h2⟩ := mt_ar_prim (hts _ mt_arr_boolean.1); exact ⟨c, fun _ => ⟨h1, h2⟩⟩
      · obtain ⟨c, h1, h2⟩ := mt_ar_prim (hts _ mt_arr_long.1); exact ⟨c, fun _ => ⟨h1, h2⟩⟩
      · obtain ⟨c, h1, h2⟩ := mt_ar_obj (hAO "MarloweHost$Situation" (by decide)); exact ⟨c, fun _ => ⟨h1, h2⟩⟩
      · obtain ⟨c, h1, h2⟩ := mt_ar_obj (hAO "java/lang/String" (by decide)); exact ⟨c, fun _ => ⟨h1, h2⟩⟩
      · obtain ⟨c, h1, h2⟩ := mt_ar_obj (hAO "MarloweHostModel$State" (by decide)); exact ⟨c, fun _ => ⟨h1, h2⟩⟩
    · exact ⟨0, fun h => absurd h hk⟩
  obtain ⟨cA, hcA⟩ := Classical.axiomOfChoice hR
  have hTx : ∀ n : Nat, ∃ q : Nat × Nat, n < mt_ns → mi_tx0 s n q ∧ ∀ r ∈ mt_sr, r.2.2.1 = n → vk_R (mt_cn r.1) r.2.1 r.2.2.2 q.1 s := by
    intro n
    by_cases hn : n < mt_ns
    · obtain ⟨q, h⟩ := mi_texts hts hfl n hn
      exact ⟨q, fun _ => h⟩
    · exact ⟨(0, 0), fun h => absurd h hn⟩
  obtain ⟨tx, htx⟩ := Classical.axiomOfChoice hTx
  have hFm : ∃ fm : Nat, va_Z "jdk/internal/util/Preconditions" "SIOOBE_FORMATTER" "Ljava/util/function/BiFunction;" (match fm with | 0 => Value.null | n + 1 => .ref n) (fun z => s.heap.size ≤ z) s s.heap := by
    rcases va_Zqof (hts _ mt_ls_FM) (hts _ mt_ini_P) (hft mt_gn4) hA with h | ⟨t, h⟩
    · exact ⟨0, h⟩
    · exact ⟨t + 1, h⟩
  obtain ⟨fm, hfm⟩ := hFm
  have e41 : mi_SC = 1099511627776 := rfl
  have ens : mt_ns = 53 := rfl
  refine ⟨fun q => if q < mi_SC then s.heap.size + q else if q = mi_SC then b else if q = 2199023255552 then fm else if (q - mi_SC - 1) % 2 = 0 then (tx ((q - mi_SC - 1) / 2)).1 else (tx ((q - mi_SC - 1) / 2)).2, (fun c => (kk c).1, fun c => (kk c).2), cA, ?_, ?_⟩
  · generalize had : (fun q => if q < mi_SC then s.heap.size + q else if q = mi_SC then b else if q = 2199023255552 then fm else if (q - mi_SC - 1) % 2 = 0 then (tx ((q - mi_SC - 1) / 2)).1 else (tx ((q - mi_SC - 1) / 2)).2) = ad
    have a0 : ∀ q, q < mi_SC → ad q = s.heap.size + q := fun q hq => by rw [← had]; exact if_pos hq
    have a1 : ad mi_SC = b := by rw [← had]; simp
    have a2 : ad 2199023255552 = fm := by rw [← had]; rfl
    have a3 : ∀ n, n < mt_ns → ad (mi_SC + 1 + 2 * n) = (tx n).1 := fun n hn => by
      rw [← had]
      show (if _ then _ else _) = _
      rw [if_neg (by omega), if_neg (by omega), if_neg (by omega), if_pos (by omega), show (mi_SC + 1 + 2 * n - mi_SC - 1) / 2 = n by omega]
    have a4 : ∀ n, n < mt_ns → ad (mi_SC + 2 + 2 * n) = (tx n).2 := fun n hn => by
      rw [← had]
      show (if _ then _ else _) = _
      rw [if_neg (by omega), if_neg (by omega), if_neg (by omega), if_neg (by omega), show (mi_SC + 2 + 2 * n - mi_SC - 1) / 2 = n by omega]
    refine ⟨a0, ⟨fun c q hq => hkk c q hq, fun k q hk => ?_⟩, fun k q hk => ?_, va_S.rf, ⟨rfl, Nat.le_refl _, Nat.zero_le _⟩, ⟨fun a w hw => word_at (args := A) (State.WarmedH.refl s) (good_of_word hw.2) (hts w hw.1), fun q hq => va_Nw.of rfl (hts _ (mt_nest_in q hq)), fun q hq => ?_, hAO⟩, ⟨by rw [a1]; exact hb, L, xs, fun _ _ => rfl, by rw [a1]; exact hX⟩, fun n hn => ?_, fun q hq => ?_, va_Zof (hts _ mt_ls_CS) (hts _ mt_ini_S) (va_eqi (hft mt_gn3)) hA, ?_, mi_Zs.of (hts _ mt_ls_UN) (hft mt_gn1), mi_Zs.of (hts _ mt_ls_SU) (hft mt_gn2)⟩
    · have hk7 : k < mt_na := by
        have := (List.getElem?_eq_some_iff.mp hk).1
        simpa [mi_ty] using this
      rw [mi_ty_get hk7] at hk
      cases hk
      exact hcA k hk7
    · rw [mi_ws_none (Nat.zero_le _)] at hk
      cases hk
    · have := List.all_eq_true.mp mt_nc_in q hq
      rw [decide_eq_true_eq] at this
      exact va_Nc.of (hft this)
    · unfold mi_St
      rw [a3 n hn, a4 n hn]
      exact (htx n hn).1
    · have hn := mt_sr_lt q hq
      rw [a3 _ hn]
      exact (htx _ hn).2 q hq rfl
    · unfold mi_v
      dsimp only
      rw [Nat.add_zero, a2]
      exact hfm
  · simp
end
