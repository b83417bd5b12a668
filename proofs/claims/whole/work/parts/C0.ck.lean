/-! the first object's reading: bounds -/
section
variable {g : Nat → Int32} {L k : Nat}
theorem ms_nm_end : ∀ (t k : Nat) (v : Int64), (ms_nm g L t k v).1 = k + t ∨ ¬ mr_dg (ms_c g L (ms_nm g L t k v).1) := by
  intro t
  induction t with
  | zero => intro k v; exact Or.inl rfl
  | succ t ih =>
    intro k v
    unfold ms_nm
    split
    · rcases ih (k + 1) (10 * v + (ms_c g L k).toInt64 - 48) with h | h
      · exact Or.inl (by omega)
      · exact Or.inr h
    · rename_i h
      exact Or.inr h
theorem ms_nm_1 {v : Int64} {t : Nat} (h : mr_dg (ms_c g L k)) : k + 1 ≤ (ms_nm g L (t + 1) k v).1 := by
  have hk : k < L := ms_lt_L (P := mr_dg) ms_0.2 h
  have e : ms_nm g L (t + 1) k v = ms_nm g L t (k + 1) (10 * v + (ms_c g L k).toInt64 - 48) := by show (if _ then _ else _) = _; rw [if_pos h]
  rw [e]
  exact (ms_nm_le (g := g) (L := L) t (k + 1) _ (by omega)).1
theorem ms_tk37 (h : (ms_tk g L k).k = 37) : (ms_tk g L k).a = k ∧ ∃ k', (k' = k ∧ mr_dg (ms_c g L k) ∨ k' = k + 1 ∧ ¬ mr_dg (ms_c g L k)) ∧ (ms_tk g L k).b = (ms_nm g L 17 k' 0).1 ∧ mr_dg (ms_c g L k') := by
  unfold ms_tk at *
  split at h
  · exact absurd (show 39 = 37 from h) (by decide)
  · rename_i h1
    rw [if_neg h1]
    split at h
    · exact (ms_k37' h).elim
    · rename_i h2
      rw [if_neg h2]
      split at h
      · rename_i h3
        rw [if_pos h3]
        exact ⟨rfl, k, Or.inl ⟨rfl, h3⟩, rfl, h3⟩
      · rename_i h3
        rw [if_neg h3]
        split at h
        · rename_i h4
          rw [if_pos h4]
          exact ⟨rfl, k + 1, Or.inr ⟨rfl, h3⟩, rfl, h4.2⟩
        · exact absurd h ms_sg_r.2.2.1
/-- two numbers behind one another: blanks, or the first one is full, or the second one has a sign -/
theorem ms_adj (h : (ms_tk g L k).k = 37) (h' : (ms_nx g L (ms_tk g L k).b).k = 37) (e : (ms_nx g L (ms_tk g L k).b).a = (ms_tk g L k).b) : k + 17 ≤ (ms_tk g L k).b ∨ (ms_nx g L (ms_tk g L k).b).a + 2 ≤ (ms_nx g L (ms_tk g L k).b).b := by
  obtain ⟨ha, k1, hk1, hb, hd⟩ := ms_tk37 h
  generalize hB : (ms_tk g L k).b = B at *
  unfold ms_nx at *
  generalize hK : ms_sk g (L - B) B = K at *
  obtain ⟨ha', k2, hk2, hb', hd'⟩ := ms_tk37 h'
  rw [ha'] at e ⊢
  rcases ms_nm_end (g := g) (L := L) 17 k1 0 with h1 | h1
  · left
    omega
  · right
    rcases hk2 with ⟨rfl, hdd⟩ | ⟨rfl, hdd⟩
    · rw [← hb, ← e] at h1
      exact absurd hdd h1
    · have : K + 1 + 1 ≤ (ms_nm g L 17 (K + 1) 0).1 := ms_nm_1 (g := g) (L := L) (v := 0) (t := 16) hd'
      omega
def ck_v (q : Nat) (t : ms_T) : Prop := 4 * q ≤ t.a ∧ (t.k = 37 → 4 * q + 2 ≤ t.b ∧ (t.b = t.a + 1 → 4 * q + 1 ≤ t.a))
theorem ck_step {q : Nat} {t : ms_T} (hk : k ≤ L) (ht : t = ms_tk g L k) (h37 : t.k = 37) (hv : ck_v q t) (h2 : (ms_nx g L t.b).k = 37) : 4 * (q + 1) ≤ (ms_nx g L t.b).b ∧ ck_v (q + 1) (ms_nx g L (ms_nx g L t.b).b) := by
  subst ht
  have hle := ms_tk_le (g := g) hk
  have hl1 := ms_nx_le (g := g) (L := L) (p := (ms_tk g L k).b) (by omega)
  obtain ⟨k2, hk2, e2⟩ := ms_nx_tk (g := g) (L := L) (p := (ms_tk g L k).b)
  have hk2 := hk2 (by omega)
  have hadj := ms_adj (g := g) (L := L) (k := k) h37 h2
  obtain ⟨hv1, hv2⟩ := hv
  have hv2 := hv2 h37
  have ha := hle.1
  have hlt := hl1.2.2.2.resolve_left (by omega)
  have hb : 4 * (q + 1) ≤ (ms_nx g L (ms_tk g L k).b).b := by
    by_cases e : (ms_nx g L (ms_tk g L k).b).a = (ms_tk g L k).b
    · rcases hadj e with h | h
      · omega
      · by_cases e1 : (ms_tk g L k).b = (ms_tk g L k).a + 1
        · have := hv2.2 e1
          omega
        · omega
    · by_cases e1 : (ms_tk g L k).b = (ms_tk g L k).a + 1
      · have := hv2.2 e1
        omega
      · omega
  refine ⟨hb, ?_⟩
  have hl2 := ms_nx_le (g := g) (L := L) (p := (ms_nx g L (ms_tk g L k).b).b) (by omega)
  have h2' : (ms_tk g L k2).k = 37 := by rw [← e2]; exact h2
  have hle2 := ms_tk_le (g := g) hk2
  have hadj2 := ms_adj (g := g) (L := L) (k := k2) h2'
  rw [← e2] at hadj2 hle2
  refine ⟨by omega, fun h3 => ?_⟩
  have hlt2 := hl2.2.2.2.resolve_left (by omega)
  have key : ¬ (ms_nx g L (ms_nx g L (ms_tk g L k).b).b).a = (ms_nx g L (ms_tk g L k).b).b ∨ (k2 + 17 ≤ (ms_nx g L (ms_tk g L k).b).b ∨ (ms_nx g L (ms_nx g L (ms_tk g L k).b).b).a + 2 ≤ (ms_nx g L (ms_nx g L (ms_tk g L k).b).b).b) := by
    by_cases e : (ms_nx g L (ms_nx g L (ms_tk g L k).b).b).a = (ms_nx g L (ms_tk g L k).b).b
    · exact Or.inr (hadj2 h3 e)
    · exact Or.inl e
  have ha2 := hle2.1
  constructor
  · rcases key with h | h | h <;> omega
  · intro e1
    rcases key with h | h | h <;> omega
end
def cbd (a : mh_A) (q : Nat) (v w : Int64) : mh_A := ((a.sAL 2 3 10 (vp_updL (a.AL 2 3 10) (2 * q) v)).sAL 2 3 10 (vp_updL (vp_updL (a.AL 2 3 10) (2 * q) v) (2 * q + 1) w)).sI 2 3 12 (a.I 2 3 12 + 2)
section
variable {d e n sl m f : Nat} {a a0 : mh_A} {σ σ0 : ms_S} {f0 : Nat → mi_C} {Q : (Option Value ⊕ Nat) → mi_H → Prop} {g : Nat → Int32} {L : Nat} {v w : Int64} {R : Nat → Int32}
theorem cbd_AL {q i : Nat} : (cbd a q v w).AL 2 3 10 i = if i = 2 * q + 1 then w else if i = 2 * q then v else a.AL 2 3 10 i := by
  have : (cbd a q v w).AL 2 3 10 = vp_updL (vp_updL (a.AL 2 3 10) (2 * q) v) (2 * q + 1) w := by simp [cbd, mh_A.sAL, mh_A.sI, mh_A.AL, mh_u]
  rw [this]
  simp [vp_updL]
theorem cst.bnd (h : cst a g L σ) (hq : 4 * (σ.q + 1) ≤ σ.t.b) : cst (cbd a σ.q v w) g L (σ.bnd v w) := by
  obtain ⟨r1, r2, ⟨r3, r4, r5⟩, r6⟩ := h
  refine ⟨r1, r2, ⟨?_, hq, fun i hi => ?_⟩, r6⟩
  · show a.I 2 3 12 + 2 = Int32.ofNat (2 * (σ.q + 1))
    rw [r3]
    exact of_add' (2 * σ.q) 2
  · rw [cbd_AL, cbd_AL]
    show _ = (va_up σ.bd σ.q (v, w) i).1 ∧ _ = (va_up σ.bd σ.q (v, w) i).2
    have hi : i < σ.q + 1 := hi
    by_cases ei : i = σ.q
    · subst ei
      rw [va_eq, if_neg (by omega), if_pos rfl, if_pos rfl]
      exact ⟨rfl, rfl⟩
    · rw [va_ne ei, if_neg (by omega), if_neg (by omega), if_neg (by omega), if_neg (by omega)]
      exact r5 i (by omega)
theorem cgo.bnd : cgo a σ (cbd a σ.q v w) (σ.bnd v w) := by
  refine ⟨⟨fun c p k hc => ⟨mh_u_c (by omega), rfl, rfl, (mh_u_c (by omega)).trans (mh_u_c (by omega))⟩, rfl, rfl, rfl⟩, fun m hm => ⟨fun k hk => rfl, rfl⟩, ⟨Nat.le_refl _, Nat.le_succ _, fun _ _ => rfl, fun i hi => va_ne (by omega)⟩, rfl⟩
theorem ms_nx_n : (σ.nx g L).n = σ.n := rfl
theorem ms_nx_q : (σ.nx g L).q = σ.q := rfl
theorem ms_nx_tb : (σ.nx g L).tb = σ.tb := rfl
theorem kc_in {d y pc : Nat} {ls : mi_L} {rest : List Value} {vv : Option Value} {h : mi_H} (k : mi_W (d + 1) y (pc + 3) ls (vv.toList ++ rest) h Q) : mi_Kc d y pc ls rest Q (.inl vv) h := k
theorem ct_bd {q : Nat} (hn : 575 ≤ n) (h12 : a.I 2 3 12 = Int32.ofNat (2 * q)) (hq : q + 1 ≤ 2048) (K : Q (.inl (some (.int 1))) (n, sl, hc (cbd a q v w) f0)) : mi_W d 54 0 (mi_en 5 [.ref 3, .long v, .long w]) [] (n, sl, hc a f0) Q := by
  have e2 : a.I 2 3 12 + 2 = Int32.ofNat (2 * q + 2) := by rw [h12]; exact of_add' (2 * q) 2
  have e1 : a.I 2 3 12 + 1 = Int32.ofNat (2 * q + 1) := by rw [h12]; exact of_add' (2 * q) 1
  have hx0 : mi_ix (a.I 2 3 12) 4096 (2 * q) := by rw [h12]; exact ix_of (by omega) (by omega)
  have hx1 : mi_ix (a.I 2 3 12 + 1) 4096 (2 * q + 1) := by rw [e1]; exact ix_of (by omega) (by omega)
  refine b_54_0 _ _ _ (by first | (exact hc_o (by first | assumption | (exact ⟨by decide, rfl⟩))) | assumption | (exact (hc_far (by omega)).trans (by assumption))) (by omega) (by first | rfl | assumption) ?_ ?_
  · intro z0
    refine b_54_14 _ _ _ _ _ _ _ _ _ (by first | (exact hc_o (by first | assumption | (exact ⟨by decide, rfl⟩))) | assumption | (exact (hc_far (by omega)).trans (by assumption))) (by omega) (by first | rfl | assumption) (by first | (exact hc_o (by first | assumption | (exact ⟨by decide, rfl⟩))) | assumption | (exact (hc_far (by omega)).trans (by assumption))) (by omega) (by first | rfl | assumption) (by first | (exact hc_al (by omega) (by first | assumption | (exact (ht9 (by assumption)).2.1) | (exact (ht9 (by assumption)).2.2.1) | (exact (ht9 (by assumption)).2.2.2) | rfl)) | assumption | (exact (hc_far (by omega)).trans (by assumption))) (by omega) (by first | assumption | (exact ix_of (by omega) (by omega)) | (exact ⟨by decide, rfl, by decide⟩)) (by first | (exact (congrFun (hw_AL (by omega) (by first | assumption | (exact (ht9 (by assumption)).2.1) | (exact (ht9 (by assumption)).2.2.1) | (exact (ht9 (by assumption)).2.2.2) | rfl)) _).trans (hc_o (by first | assumption | (exact ⟨by decide, rfl⟩)))) | assumption | (exact (hc_far (by omega)).trans (by assumption))) (by omega) (by first | rfl | assumption) (by first | (exact (congrFun (hw_AL (by omega) (by first | assumption | (exact (ht9 (by assumption)).2.1) | (exact (ht9 (by assumption)).2.2.1) | (exact (ht9 (by assumption)).2.2.2) | rfl)) _).trans (hc_o (by first | assumption | (exact ⟨by decide, rfl⟩)))) | assumption | (exact (hc_far (by omega)).trans (by assumption))) (by omega) (by first | rfl | assumption) (by first | (exact (congrFun (hw_AL (by omega) (by first | assumption | (exact (ht9 (by assumption)).2.1) | (exact (ht9 (by assumption)).2.2.1) | (exact (ht9 (by assumption)).2.2.2) | rfl)) _).trans (hc_al (by omega) (by first | assumption | (exact (ht9 (by assumption)).2.1) | (exact (ht9 (by assumption)).2.2.1) | (exact (ht9 (by assumption)).2.2.2) | rfl))) | assumption | (exact (hc_far (by omega)).trans (by assumption))) (by omega) (by first | assumption | (exact ix_of (by omega) (by omega)) | (exact ⟨by decide, rfl, by decide⟩)) (by first | (exact (congrFun (hw_2 (hw_AL (by omega) (by first | assumption | (exact (ht9 (by assumption)).2.1) | (exact (ht9 (by assumption)).2.2.1) | (exact (ht9 (by assumption)).2.2.2) | rfl)) (hw_AL (by omega) (by first | assumption | (exact (ht9 (by assumption)).2.1) | (exact (ht9 (by assumption)).2.2.1) | (exact (ht9 (by assumption)).2.2.2) | rfl))) _).trans (hc_o (by first | assumption | (exact ⟨by decide, rfl⟩)))) | assumption | (exact (hc_far (by omega)).trans (by assumption))) (by omega) (by first | rfl | assumption) (by first | (exact (congrFun (hw_2 (hw_AL (by omega) (by first | assumption | (exact (ht9 (by assumption)).2.1) | (exact (ht9 (by assumption)).2.2.1) | (exact (ht9 (by assumption)).2.2.2) | rfl)) (hw_AL (by omega) (by first | assumption | (exact (ht9 (by assumption)).2.1) | (exact (ht9 (by assumption)).2.2.1) | (exact (ht9 (by assumption)).2.2.2) | rfl))) _).trans (hc_o (by first | assumption | (exact ⟨by decide, rfl⟩)))) | assumption | (exact (hc_far (by omega)).trans (by assumption))) (by omega) (Nat.le_of_ble_eq_true rfl) ?_
    refine hw_Q (hw_2 (hw_2 (hw_AL (by omega) (by first | assumption | (exact (ht9 (by assumption)).2.1) | (exact (ht9 (by assumption)).2.2.1) | (exact (ht9 (by assumption)).2.2.2) | rfl)) (hw_AL (by omega) (by first | assumption | (exact (ht9 (by assumption)).2.1) | (exact (ht9 (by assumption)).2.2.1) | (exact (ht9 (by assumption)).2.2.2) | rfl))) (hw_I (by first | assumption | (exact ⟨by decide, rfl⟩)) (by decide))) ?_
    exact K
  · intro z0
    exact absurd ((i_le (b := 4096) e2 rfl (by omega) (by omega)).mpr (by omega)) z0
theorem ck_bs (hG : cG n sl f0) (K : ∀ a' σ' (l3 : Int32) o4 o5, ms_bs g L f σ = .ok ((), σ') → cst a' g L σ' → cgo a0 σ0 a' σ' → σ'.n = σ.n → σ.q ≤ σ'.q → a'.AI = a.AI → a'.AL 2 3 9 = a.AL 2 3 9 → σ'.tb = σ.tb → mi_W (e + 8) 52 123 [some (.ref 15), some (.int (Int32.ofNat m)), some (.int l3), o4, o5] [] (n, sl, hc a' f0) Q) (er : ∀ w, ms_bs g L f σ = .error w → cEr n sl f0 Q a0 w) : ∀ (f1 : Nat) (a1 : mh_A) (σ1 : ms_S) (i : Nat) (o4 o5 : Option Value), ms_bs g L f σ = ms_bs g L f1 σ1 → L - σ1.t.a ≤ f1 → ck_v σ1.q σ1.t → i ≤ σ1.q → cst a1 g L σ1 → cgo a0 σ0 a1 σ1 → σ1.n = σ.n → σ.q ≤ σ1.q → a1.AI = a.AI → a1.AL 2 3 9 = a.AL 2 3 9 → σ1.tb = σ.tb → mi_W (e + 8) 52 47 [some (.ref 15), some (.int (Int32.ofNat m)), some (.int (Int32.ofNat i)), o4, o5] [] (n, sl, hc a1 f0) Q := by
  have hn := hG.1
  intro f1
  induction f1 with
  | zero =>
    intro a1 σ1 i o4 o5 hsp hf hv hi h hg hq1 hq2 hI hJ htb
    have hT := h.1
    have hle := h.1.le
    have h37 : ¬ σ1.t.k = 37 := by
      obtain ⟨-, -, -, -, -, -, -, k, hk, et⟩ := hT
      have hl := ms_tk_le (g := g) hk
      rw [← et] at hl
      intro h
      rcases hl.2.2.2 with h' | h' <;> omega
    refine b_52_47 _ _ _ (by first | (exact hc_o (by first | assumption | (exact ⟨by decide, rfl⟩))) | assumption | (exact (hc_far (by omega)).trans (by assumption))) (by omega) ?_
    refine cr_num (d := e) hG h (fun hk => ?_) (fun hk => ?_)
    · exact absurd hk h37
    · exact cEr.kc (by decide +kernel) (by omega) ((er _ (hsp.trans rfl)).go hg.1)
  | succ f1 ih =>
    intro a1 σ1 i o4 o5 hsp hf hv hi h hg hq1 hq2 hI hJ htb
    have hle := h.1.le
    have hspn : ¬ σ1.t.k = 37 → ms_bs g L f σ = .error σ1.t.a := fun h => by rw [hsp, ms_bs_s, if_neg h]
    obtain ⟨k, hk, et⟩ := h.1.2.2.2.2.2.2.2
    have h4q := h.2.2.1.2.1
    refine b_52_47 _ _ _ (by first | (exact hc_o (by first | assumption | (exact ⟨by decide, rfl⟩))) | assumption | (exact (hc_far (by omega)).trans (by assumption))) (by omega) ?_
    refine cr_num (d := e) hG h (fun h37 a2 h2 g2 hI2 hJ2 => ?_) (fun h37 => ?_)
    · have t2 := h2.1.2.2.2.1
      have t5 := h2.1.2.2.2.2.1
      have t40 := h2.1.k40
      have hle2 := h2.1.le
      have tv := h2.1.2.2.2.2.2.2.1
      have hbadv : ¬ ((σ1.nx g L).t.k = 37 ∧ ¬ (σ1.nx g L).t.v < σ1.t.v) → ms_bs g L f σ = .error (σ1.nx g L).t.a := fun hb => by rw [hsp, ms_bs_s, if_pos h37, if_neg hb]
      refine b_52_51 _ _ _ (by first | (exact hc_o (by first | assumption | (exact ⟨by decide, rfl⟩))) | assumption | (exact (hc_far (by omega)).trans (by assumption))) (by omega) (by first | rfl | assumption) (by first | (exact hc_o (by first | assumption | (exact ⟨by decide, rfl⟩))) | assumption | (exact (hc_far (by omega)).trans (by assumption))) (by omega) (by first | rfl | assumption) ?_ ?_
      · intro z51
        have hk2 : ¬ (σ1.nx g L).t.k = 37 := fun e => z51 (by rw [t2, e]; rfl)
        have hb := hbadv (fun h => hk2 h.1)
        refine b_52_81 _ _ _ ?_
        refine b_52_82 _ _ _ (by first | (exact hc_o (by first | assumption | (exact ⟨by decide, rfl⟩))) | assumption | (exact (hc_far (by omega)).trans (by assumption))) (by omega) ?_
        refine cr_re0 hn hG.2.1 ?_
        refine hx_c (by decide +kernel) (by omega) ?_
        exact (er _ hb).at (hg.trans g2).1 t5
      · intro z51
        have hk2 : (σ1.nx g L).t.k = 37 := (i_eq (b := 37) t2 rfl (by omega) (by omega)).mp (Classical.not_not.mp z51)
        have tv := tv hk2
        refine b_52_65 _ _ _ (by first | (exact hc_o (by first | assumption | (exact ⟨by decide, rfl⟩))) | assumption | (exact (hc_far (by omega)).trans (by assumption))) (by omega) (by first | rfl | assumption) (by first | (exact hc_o (by first | assumption | (exact ⟨by decide, rfl⟩))) | assumption | (exact (hc_far (by omega)).trans (by assumption))) (by omega) (by first | rfl | assumption) ?_ ?_
        · intro z65
          have hlv : (σ1.nx g L).t.v < σ1.t.v := by rw [← tv]; exact lg_lt.mp z65
          have hb := hbadv (fun h => h.2 hlv)
          refine b_52_81 _ _ _ ?_
          refine b_52_82 _ _ _ (by first | (exact hc_o (by first | assumption | (exact ⟨by decide, rfl⟩))) | assumption | (exact (hc_far (by omega)).trans (by assumption))) (by omega) ?_
          refine cr_re0 hn hG.2.1 ?_
          refine hx_c (by decide +kernel) (by omega) ?_
          exact (er _ hb).at (hg.trans g2).1 t5
        · intro z65
          have hlv : ¬ (σ1.nx g L).t.v < σ1.t.v := by rw [← tv]; exact fun h => z65 (lg_lt.mpr h)
          have hst := ck_step (g := g) (L := L) hk et h37 hv hk2
          have hst1 : 4 * (σ1.q + 1) ≤ (σ1.nx g L).t.b := hst.1
          refine b_52_77 _ _ _ ?_
          refine b_52_82 _ _ _ (by first | (exact hc_o (by first | assumption | (exact ⟨by decide, rfl⟩))) | assumption | (exact (hc_far (by omega)).trans (by assumption))) (by omega) ?_
          refine cr_re1 hn hG.2.1 ?_
          refine b_52_85 _ _ _ (by first | (exact hc_o (by first | assumption | (exact ⟨by decide, rfl⟩))) | assumption | (exact (hc_far (by omega)).trans (by assumption))) (by omega) (by first | rfl | assumption) (by first | (exact hc_o (by first | assumption | (exact ⟨by decide, rfl⟩))) | assumption | (exact (hc_far (by omega)).trans (by assumption))) (by omega) (by first | rfl | assumption) (by first | (exact hc_o (by first | assumption | (exact ⟨by decide, rfl⟩))) | assumption | (exact (hc_far (by omega)).trans (by assumption))) (by omega) (by first | rfl | assumption) (by first | (exact hc_o (by first | assumption | (exact ⟨by decide, rfl⟩))) | assumption | (exact (hc_far (by omega)).trans (by assumption))) (by omega) ?_
          refine ct_bd (q := σ1.q) hn h2.2.2.1.1 (by omega) ?_
          refine b_52_101 _ _ _ (by first | (exact hc_o (by first | assumption | (exact ⟨by decide, rfl⟩))) | assumption | (exact (hc_far (by omega)).trans (by assumption))) (by omega) ?_
          refine cr_re1 hn hG.2.1 ?_
          refine b_52_104 _ _ _ (by first | (exact hc_o (by first | assumption | (exact ⟨by decide, rfl⟩))) | assumption | (exact (hc_far (by omega)).trans (by assumption))) (by omega) (by first | rfl | assumption) (by first | (exact hc_o (by first | assumption | (exact ⟨by decide, rfl⟩))) | assumption | (exact (hc_far (by omega)).trans (by assumption))) (by omega) ?_
          refine cr_adv (d := e + 1) hG (h2.bnd (v := σ1.t.v) (w := a2.L 1 1 5) hst1) (fun a3 h3 g3 hI3 hJ3 => ?_)
          refine b_52_111 _ _ _ ?_
          have e26 : (((σ1.nx g L).bnd σ1.t.v (σ1.nx g L).t.v).nx g L) = (((σ1.nx g L).bnd σ1.t.v (a2.L 1 1 5)).nx g L) := by rw [tv]
          have hsp2 : ms_bs g L f σ = (if (((σ1.nx g L).bnd σ1.t.v (σ1.nx g L).t.v).nx g L).t.k = ms_kc 52 then .ok ((), (((σ1.nx g L).bnd σ1.t.v (σ1.nx g L).t.v).nx g L).nx g L) else ms_bs g L f1 (((σ1.nx g L).bnd σ1.t.v (σ1.nx g L).t.v).nx g L)) := by rw [hsp, ms_bs_s, if_pos h37, if_pos ⟨hk2, hlv⟩]
          rw [e26] at hsp2
          have hg4 := (hg.trans (g2.trans cgo.bnd)).trans g3
          have hAI4 : a3.AI = a.AI := hI3.trans (hI2.trans hI)
          have hAL4 : a3.AL 2 3 9 = a.AL 2 3 9 := by
            rw [hJ3]
            exact (show (cbd a2 σ1.q σ1.t.v (a2.L 1 1 5)).AL 2 3 9 = a2.AL 2 3 9 from rfl).trans ((by rw [hJ2] : a2.AL 2 3 9 = a1.AL 2 3 9).trans hJ)
          have hv4 : ck_v (σ1.q + 1) (((σ1.nx g L).bnd σ1.t.v (a2.L 1 1 5)).nx g L).t := hst.2
          have hl3 := ms_nx_le (g := g) (L := L) (p := (σ1.nx g L).t.b) (by omega)
          have hl1 := ms_nx_le (g := g) (L := L) (p := σ1.t.b) (by omega)
          have hta : (σ1.nx g L).t.b ≤ (((σ1.nx g L).bnd σ1.t.v (a2.L 1 1 5)).nx g L).t.a := hl3.1
          have htb1 : σ1.t.b ≤ (σ1.nx g L).t.a := hl1.1
          have hab : σ1.t.a < σ1.t.b := by
            have := ms_tk_le (g := g) hk
            rw [← et] at this
            rcases this.2.2.2 with h' | h' <;> omega
          generalize hσ4 : ((σ1.nx g L).bnd σ1.t.v (a2.L 1 1 5)).nx g L = σ4 at *
          have hq4 : σ4.q = σ1.q + 1 := by rw [← hσ4]; rfl
          have hn4 : σ4.n = σ1.n := by rw [← hσ4]; rfl
          have htb4 : σ4.tb = σ1.tb := by rw [← hσ4]; rfl
          have k2 := h3.1.2.2.2.1
          have k40 := h3.1.k40
          have k4q := h3.2.2.1.2.1
          have kle := h3.1.le
          rw [of_succ]
          refine b_52_24 _ _ _ ?_ ?_
          · intro z24
            exact absurd ((i_le (a := 4096) rfl rfl (by omega) (by omega)).mp z24) (by omega)
          · intro z24
            refine b_52_31 _ _ _ ?_ ?_
            · intro z31
              exact absurd ((i_eq (b := 0) rfl rfl (by omega) (by omega)).mp z31) (by omega)
            · intro z31
              refine b_52_35 _ _ _ (by first | (exact hc_o (by first | assumption | (exact ⟨by decide, rfl⟩))) | assumption | (exact (hc_far (by omega)).trans (by assumption))) (by omega) (by first | rfl | assumption) (by first | (exact hc_o (by first | assumption | (exact ⟨by decide, rfl⟩))) | assumption | (exact (hc_far (by omega)).trans (by assumption))) (by omega) (by first | rfl | assumption) ?_ ?_
              · intro z35
                have hk27 : σ4.t.k = ms_kc 52 := (i_eq (b := 27) k2 rfl (by omega) (by omega)).mp z35
                rw [if_pos hk27] at hsp2
                refine b_52_117 _ _ _ (by first | (exact hc_o (by first | assumption | (exact ⟨by decide, rfl⟩))) | assumption | (exact (hc_far (by omega)).trans (by assumption))) (by omega) ?_
                refine cr_take (k := 27) (d := e) hG (by omega) h3 (fun hne a5 h5 g5 hI5 hJ5 => ?_) (fun w hw => ?_)
                · refine kc_in ?_
                  exact K a5 (σ4.nx g L) _ _ _ hsp2 h5 (hg4.trans g5) ((ms_nx_n).trans (by omega)) (by rw [ms_nx_q]; omega) (hI5.trans hAI4) (by rw [hJ5]; exact hAL4) (ms_nx_tb.trans (htb4.trans htb))
                · exact absurd hw (by unfold ms_need; rw [if_pos (show σ4.t.k = 27 from hk27)]; exact fun h => nomatch h)
              · intro z35
                have hk27 : ¬ σ4.t.k = ms_kc 52 := fun e => z35 (by rw [k2, e]; decide)
                rw [if_neg hk27] at hsp2
                exact ih a3 σ4 (i + 1) _ _ hsp2 (by omega) (by rw [hq4]; exact hv4) (by omega) h3 hg4 (by omega) (by omega) hAI4 hAL4 (htb4.trans htb)
    · exact cEr.kc (by decide +kernel) (by omega) ((er _ (hspn h37)).go hg.1)
end
