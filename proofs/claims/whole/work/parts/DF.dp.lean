/-! the first object: an input is taken, whole -/
section
variable {d e n sl N : Nat} {a a0 a1 a2 : mh_A} {f0 : Nat → mi_C} {Q : (Option Value ⊕ Nat) → mi_H → Prop} {p q i j c k r m ip BN : Nat} {tb : Nat → ms_N} {lo hi v w : Int64} {Z : mv_Z} {bd : Nat → Int64 × Int64} {I : mv_I} {wal : Bool}
theorem cm_k5 : ∀ o : Fin 33, mz_so o.1 = 0 → (Int32.ofNat (cz_k.getD o.1 0) = 5 ↔ o.1 = 4) := by decide +kernel
theorem cm_take (hn : 575 ≤ n) (hw : p = 41 ∧ wal = true ∨ p = 67 ∧ wal = false) (hip : ip = 35 ∨ ip = 55) (hk : k < 16) (h : cM a p q N tb lo hi Z) (hel : a.I 7 p 6 = 0) (hfl : a.I 10 (p + 12) 4 = 0) (hS : mv_ok Z.S) (hok : mz_ok tb N 100 0 Z.S.at) (hb : cBd a BN bd tb) (hI : cIn a ip k I) (K : ∀ a', cMf p q a a' → a'.I 7 p 6 = 0 ∧ a'.I 10 (p + 12) 4 = 0 ∧ (∃ Z', mv_take tb bd wal lo hi I Z = .ok Z' ∧ cM a' p q N tb lo hi Z') ∨ (∃ x, mv_take tb bd wal lo hi I Z = .error x ∧ a'.I 7 p 6 = Int32.ofNat x) → Q (.inl none) (n, sl, hc a' f0)) : mi_W (e + 111) 105 0 (mi_en 7 [.ref p, .ref ip, .int (Int32.ofNat k)]) [] (n, sl, hc a f0) Q := by
  obtain ⟨hR, hqo, hq, hp68, hpo, hro, heo⟩ := h.R
  have hqo5 := hqo.1
  have hN := h.2.2.1.1.1
  have hN8 := h.2.2.1.1.2
  have hm := mz_u1 hok
  have hat := h.2.2.2.1.2.1.1
  have hrow := h.row hm
  have h0 : a.AI 2 3 0 Z.S.at = Int32.ofNat (cz_k.getD (tb Z.S.at).1 0) := hrow.1 0 (by decide) (by decide)
  have hun := mz_un (k := 99) hok
  have h5 := cm_k5 ⟨(tb Z.S.at).1, mz_so33 hun.2.1 (by decide)⟩ hun.2.1
  dsimp only at h5
  rw [← h0] at h5
  have hix := ix_of (w := Z.S.at) (m := 800) (by omega) (by omega)
  unfold mv_take at K
  refine b_105_0 _ _ _ (by first | (exact hc_o (by first | assumption | (exact ⟨by decide, rfl⟩))) | assumption | (exact (hc_far (by omega)).trans (by assumption))) (by omega) (by first | rfl | assumption) (by first | (exact hc_o (by first | assumption | (exact ⟨by decide, rfl⟩))) | assumption | (exact (hc_far (by omega)).trans (by assumption))) (by omega) (by first | rfl | assumption) (by first | (exact hc_o (by first | assumption | (exact ⟨by decide, rfl⟩))) | assumption | (exact (hc_far (by omega)).trans (by assumption))) (by omega) (by first | rfl | assumption) (by first | (exact hc_o (by first | assumption | (exact ⟨by decide, rfl⟩))) | assumption | (exact (hc_far (by omega)).trans (by assumption))) (by omega) ?_
  rw [hR, hat]
  refine ct_kind hn hN hN8 hm rfl ?_
  refine b_105_16 _ _ _ ?_ ?_
  · intro z16
    rw [if_neg (fun h => z16 (h5.mpr h))] at K
    refine b_105_32 _ _ _ ?_
    refine b_105_33 _ _ _ ?_
    first | (rw [hlk]; exact cm_tkl hn hw hip hk hS 8 0 Z.S.at _ a _ rfl hls h hel hfl hb hI K) | skip
    all_goals exact cm_tkl hn hw hip hk hS 8 0 0 0 a _ rfl (Or.inl rfl) h hel hfl hb hI (fun a' f s => K a' f (s.imp (fun s => ⟨s.1, s.2.1, by obtain ⟨Z', hz, _⟩ := s.2.2; exact absurd hz (by rw [mv_tks_s, if_pos rfl]; exact fun h => nomatch h)⟩) (fun s => by obtain ⟨x, hx, he⟩ := s; rw [mv_tks_s, if_pos rfl] at hx; cases hx; exact ⟨4, rfl, he⟩)))
  · intro z16
    have h4 := h5.mp (Classical.not_not.mp z16)
    rw [if_pos h4] at K
    have hlk : a.AI 2 3 1 Z.S.at = mz_lk (tb Z.S.at).2.2.2.2.2.1 := by
      have := hrow.1 1 (by decide) (by decide)
      rw [this]
      show (if (tb Z.S.at).1 = 4 then _ else _) = _
      rw [if_pos h4]
    have hls : mz_ls tb N (mz_ok tb N 99) 8 Z.S.at (tb Z.S.at).2.2.2.2.2.1 := hun.2.2.2.2.1 (by rw [h4]; decide)
    refine b_105_20 _ _ _ _ _ _ (by first | (exact hc_o (by first | assumption | (exact ⟨by decide, rfl⟩))) | assumption | (exact (hc_far (by omega)).trans (by assumption))) (by omega) (by first | rfl | assumption) (by first | (exact hc_o (by first | assumption | (exact ⟨by decide, rfl⟩))) | assumption | (exact (hc_far (by omega)).trans (by assumption))) (by omega) (by first | rfl | assumption) (by first | (exact hc_ai (by omega) (by first | assumption | (exact (ht9 (by assumption)).2.1) | (exact (ht9 (by assumption)).2.2.1) | (exact (ht9 (by assumption)).2.2.2) | rfl) (by decide)) | assumption | (exact (hc_far (by omega)).trans (by assumption))) (Or.inl (by omega)) (by first | assumption | (exact ix_of (by omega) (by omega)) | (exact ⟨by decide, rfl, by decide⟩)) ?_
    refine b_105_33 _ _ _ ?_
    first | (rw [hlk]; exact cm_tkl hn hw hip hk hS 8 0 Z.S.at _ a _ rfl hls h hel hfl hb hI K) | skip
    all_goals exact cm_tkl hn hw hip hk hS 8 0 0 0 a _ rfl (Or.inl rfl) h hel hfl hb hI (fun a' f s => K a' f (s.imp (fun s => ⟨s.1, s.2.1, by obtain ⟨Z', hz, _⟩ := s.2.2; exact absurd hz (by rw [mv_tks_s, if_pos rfl]; exact fun h => nomatch h)⟩) (fun s => by obtain ⟨x, hx, he⟩ := s; rw [mv_tks_s, if_pos rfl] at hx; cases hx; exact ⟨4, rfl, he⟩)))
end
