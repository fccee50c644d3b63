section QMG
variable {S md pc ba bo ti : Nat} {ro : Bool} {rg mm dk : Nat → Nat} {cs : mc_K} {kold kwai ksnt : Int32} {ktyp ksen : Nat → Int32}
theorem sh_6 {w : Nat} (h : w < 65536) : nI w >>> ((6 : Int32) &&& 31) = nI (w / 64) := pk_shrN (by omega) _ 6 (by decide)
theorem sh_3 {w : Nat} (h : w < 65536) : (nI w >>> ((3 : Int32) &&& 31)) &&& 7 = nI (w / 8 % 8) := by
  rw [pk_shrN (by omega) _ 3 (by decide)]
  exact pk_andN (by omega) 3 (by decide)
theorem and_7 {w : Nat} (h : w < 65536) : nI w &&& 7 = nI (w % 8) := pk_andN (by omega) 3 (by decide)
theorem q_31 (h : wfM S md pc ba bo ti rg mm dk) (hro : md = 1 → ro = false) (hK : KR kold kwai ksnt ktyp ksen cs) (hc : cs.2.2 < 2 ^ 30) : ∃ (kold' kwai' ksnt' : Int32) (ksen' : Nat → Int32), b_MA_step_31 (nI S) (nI md) (nI pc) (nI ba) (nI bo) (rr S ba bo) (nI ti) (bi ro) 0 (nf mm) (nf rg) (nf dk) kold kwai ksnt ktyp ksen = some (cvG S (mc_st S md pc ba bo ti ro rg mm dk cs) kold' kwai' ksnt' ksen') ∧ KR kold' kwai' ksnt' ktyp ksen' (mc_st S md pc ba bo ti ro rg mm dk cs).2.2.2.2.2.2.2.2.2.2 := by
  have hw0 := h
  obtain ⟨h1, h2, h3, h4, h5, h6, h7, h8, h9⟩ := h
  have t4 : ¬ (md = 1 ∧ ro = true) := fun q => by have := hro q.1; rw [q.2] at this; cases this
  unfold mc_st b_MA_step_31
  rw [if_neg t4, nI_1, ic (rr_lt (by omega) h4 h5 (by omega))]
  by_cases g1 : mc_gd S ba bo (pc + 1)
  · have g0 : mc_gd S ba bo pc := by unfold mc_gd at *; omega
    rw [if_neg (show ¬ ¬ mc_gd S ba bo pc from fun q => q g0), if_neg (show ¬ ¬ mc_gd S ba bo (pc + 1) from fun q => q g1), if_pos g1]
    have hb1 : ba + (pc + 1) < S := g1.2
    have hb2 : pc + 1 < bo := g1.1
    have c1 : ck (nI ba + nI pc) 1844 := by rw [nI_add]; exact (ck_nI (by omega)).mpr (by omega)
    have c2 : ck (nI ba + nI pc + 1) 1844 := by rw [nI_add, nI_1]; exact (ck_nI (by omega)).mpr (by omega)
    have e1 : (nI ba + nI pc).toNatClampNeg = ba + pc := by rw [nI_add]; exact nI_clamp (by omega)
    have e2 : (nI ba + nI pc + 1).toNatClampNeg = ba + pc + 1 := by rw [nI_add, nI_1]; exact nI_clamp (by omega)
    have hw := h8 (ba + pc)
    have hn := h8 (ba + pc + 1)
    rw [if_pos c1, if_pos c2]
    simp only [e1, e2, nf_at mm, sh_6 hw, sh_3 hw, and_7 hw]
    exact q_ex hw0 hw hn (by omega) hro hK hc
  · rw [if_neg g1]
    by_cases g0 : mc_gd S ba bo pc
    · have hb2 : pc < bo := g0.1
      rw [if_neg (show ¬ ¬ mc_gd S ba bo pc from fun q => q g0), if_pos g1]
      have hlt : ¬ rr S ba bo ≤ nI pc := fun q => (Int32.not_le.mpr ((rr_lt (by omega) h4 h5 (by omega)).mpr g0)) q
      rw [if_neg hlt]
      exact ⟨kold, kwai, ksnt, ksen, q_trapG hw0 (c := 2) (i := pc + 1) (k := pc) (by omega) (by omega) h3, hK⟩
    · rw [if_pos g0]
      have hlt : rr S ba bo ≤ nI pc := Int32.not_lt.mp fun q => g0 ((rr_lt (by omega) h4 h5 (by omega)).mp q)
      rw [if_pos hlt]
      exact ⟨kold, kwai, ksnt, ksen, q_trapG hw0 (c := 2) (i := pc) (k := pc) (by omega) h3 h3, hK⟩
/-- A STEP of the class's machine is one of the document's -/
theorem q_step (h : wfM S md pc ba bo ti rg mm dk) (hK : KR kold kwai ksnt ktyp ksen cs) (hc : cs.2.2 < 2 ^ 30) : ∃ (kold' kwai' ksnt' : Int32) (ksen' : Nat → Int32), f_MA_step (nI S) (nI md) (nI pc) (nI ba) (nI bo) (rr S ba bo) (nI ti) (bi ro) 0 (nf mm) (nf rg) (nf dk) kold kwai ksnt ktyp ksen = some (cvG S (mc_st S md pc ba bo ti ro rg mm dk cs) kold' kwai' ksnt' ksen') ∧ KR kold' kwai' ksnt' ktyp ksen' (mc_st S md pc ba bo ti ro rg mm dk cs).2.2.2.2.2.2.2.2.2.2 := by
  have hw0 := h
  obtain ⟨h1, h2, h3, h4, h5, h6, h7, h8, h9⟩ := h
  unfold f_MA_step
  rw [ic (nIe_1 (by omega))]
  by_cases hm : md = 1
  · rw [if_pos hm]
    cases ro with
    | false =>
      rw [if_pos (show bi false = (0 : Int32) from rfl)]
      exact q_31 hw0 (fun _ => rfl) hK hc
    | true =>
      rw [if_neg (show ¬ bi true = (0 : Int32) by decide)]
      have e : mc_st S md pc ba bo ti true rg mm dk cs = mc_trap 4 0 pc md ba bo ti false rg mm dk cs := if_pos ⟨hm, rfl⟩
      rw [e]
      exact ⟨kold, kwai, ksnt, ksen, q_trapG (ro := false) hw0 (c := 4) (i := 0) (k := pc) (by omega) (by omega) h3, hK⟩
  · rw [if_neg hm]
    exact q_31 hw0 (fun q => absurd q hm) hK hc
end QMG
