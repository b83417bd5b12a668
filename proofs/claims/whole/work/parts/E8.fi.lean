/-! the second object: reduce -/
section
variable {d e n sl N : Nat} {b b0 b1 b2 : mg_A} {f0 : Nat → mi_C} {Q : (Option Value ⊕ Nat) → mi_H → Prop} {p q i j c k r m A B D x y z : Nat} {tb : Nat → ms_N} {lo hi v w : Int64} {Z Z' : mv_Z} {wal : Bool}
theorem mv_red_b {x : Nat} : ∀ (t : Nat) (c1 c2 : Bool) (Z : mv_Z), (∀ b' Z', mv_red tb lo hi t c1 Z = .ok (b', Z') → ∃ b2, mv_red tb lo hi t c2 Z = .ok (b2, Z')) ∧ (mv_red tb lo hi t c1 Z = .error x → mv_red tb lo hi t c2 Z = .error x) := by
  intro t
  cases t with
  | zero =>
    intro c1 c2 Z
    refine ⟨fun b' Z' h => ?_, fun h => ?_⟩
    · cases h
      exact ⟨c2, rfl⟩
    · cases h
  | succ t =>
    intro c1 c2 Z
    rw [mv_red_s, mv_red_s]
    cases mv_step tb lo hi Z with
    | error e =>
      refine ⟨fun b' Z' h => ?_, fun h => ?_⟩
      · cases h
      · cases h
        rfl
    | ok o =>
      cases o with
      | none =>
        refine ⟨fun b' Z' h => ?_, fun h => ?_⟩
        · cases h
          exact ⟨c2, rfl⟩
        · cases h
      | some Z1 => exact ⟨fun b' Z' h => ⟨b', h⟩, fun h => h⟩
theorem g_redl (hn : 575 ≤ n) (ht : mv_tok tb) : ∀ (t : Nat) (bb : Bool) (k : Nat) (b : mg_A) (Z : mv_Z) (o2 o3 o4 o5 o6 o7 o8 : Option Value), mv_J tb N k Z → k + mv_fl tb Z.S ≤ t → gM n b p N tb lo hi wal Z → b.I 505 58 = cfl bb → (∀ b' bb' Z', mv_red tb lo hi t bb Z = .ok (bb', Z') → gMf p b b' → gM n b' p N tb lo hi wal Z' → b'.I 505 58 = cfl bb' → Q (.inl (some (.int 0))) (n, sl, hd b' f0)) → (∀ b' x, mv_red tb lo hi t bb Z = .error x → gMf p b b' → Q (.inl (some (.int (Int32.ofNat x)))) (n, sl, hd b' f0)) → mi_W (e + 103) 175 0 [some (.ref 505), o2, o3, o4, o5, o6, o7, o8] [] (n, sl, hd b f0) Q := by
  intro t
  induction t with
  | zero =>
    intro bb k b Z o2 o3 o4 o5 o6 o7 o8 hJ hk
    have : k = 0 := by omega
    subst this
    exact absurd hJ.2.2.1 (by intro h; exact h)
  | succ t ih =>
    intro bb k b Z o2 o3 o4 o5 o6 o7 o8 hJ hk h hb Kok Ker
    have hstep : ∀ s, mv_step tb lo hi Z = s → mv_red tb lo hi (t + 1) bb Z = (match s with | .error e => .error e | .ok none => .ok (bb, Z) | .ok (some Z') => mv_red tb lo hi t true Z') := fun s hs => by
      rw [← hs]
      rfl
    have KK : gKs n sl f0 Q (e + 103) b p N tb lo hi wal Z (mv_step tb lo hi Z) := by
      refine ⟨fun hs b' f1 k1 e1 => ?_, fun Z' hs b' o2' o3' o4' o5' o6' o7' o8' f1 k1 e1 => ?_, fun x hs b' f1 => ?_⟩
      · exact Kok b' bb Z (hstep _ hs) f1 k1 (e1.trans hb)
      · obtain ⟨k', j', l1, -⟩ := mv_step_J ht hJ hs
        refine ih true k' b' Z' o2' o3' o4' o5' o6' o7' o8' j' (by omega) k1 e1 (fun b2 bb2 Z2 hr f2 k2 e2 => ?_) (fun b2 x hr f2 => ?_)
        · exact Kok b2 bb2 Z2 ((hstep _ hs).trans hr) (f1.trans f2) k2 e2
        · exact Ker b2 x ((hstep _ hs).trans hr) (f1.trans f2)
      · exact Ker b' x (hstep _ hs) f1
    obtain ⟨hS, hp, hmk, h100, hw1, hp1⟩ := hJ
    have hok := mz_ok_le h100 hmk
    obtain ⟨-, hso, -⟩ := mz_un (k := 99) hok
    have h33 := mz_so33 hso (by decide)
    have ho := mz_so0 ⟨(tb Z.S.at).1, h33⟩ hso
    dsimp only at ho
    unfold mv_step at KK
    rcases hcm : tb Z.S.at with ⟨op, A, B, D, v, x, y, z, u⟩
    rw [hcm] at KK ho
    dsimp only at ho
    rcases ho with rfl | rfl | rfl | rfl | rfl | rfl | rfl
    · exact g_s0 hn h hS (by omega) (by omega) hok hcm KK
    · exact g_s1 hn h hS (by omega) (by omega) hok hcm KK
    · exact g_s2 hn h hS (by omega) (by omega) hok hcm KK
    · exact g_s3 hn h hS (by omega) (by omega) hok hcm KK
    · exact g_s4 hn h hS (by omega) (by omega) hok hcm KK
    · exact g_s5 hn h hS (by omega) (by omega) hok hcm KK
    · exact g_s6 hn h hS (by omega) (by omega) hok hcm KK
theorem g_red {bb : Bool} (hn : 575 ≤ n) (ht : mv_tok tb) (hJ : mv_J tb N k Z) (h : gM n b p N tb lo hi wal Z) (hb : b.I 505 58 = cfl bb) (Kok : ∀ b' bb' Z', mv_red tb lo hi 148 bb Z = .ok (bb', Z') → gMf p b b' → gM n b' p N tb lo hi wal Z' → b'.I 505 58 = cfl bb' → Q (.inl (some (.int 0))) (n, sl, hd b' f0)) (Ker : ∀ b' x, mv_red tb lo hi 148 bb Z = .error x → gMf p b b' → Q (.inl (some (.int (Int32.ofNat x)))) (n, sl, hd b' f0)) : mi_W (e + 103) 175 0 (mi_en 8 [.ref 505]) [] (n, sl, hd b f0) Q := g_redl hn ht 148 bb k b Z none none none none none none none hJ (by have := hJ.2.2.2.2.1; omega) h hb Kok Ker
end
