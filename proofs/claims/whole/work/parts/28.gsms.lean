section SMS
variable {S Sg md pc ba bo ti tr : Nat} {ro : Bool} {rg m mm dk : Nat → Nat} {cs : mc_K}
theorem smM_tm {c i k b1 b2 : Nat} (h : smM Sg m md ba bo ti mm) : smM Sg (mc_tm m c i k 1 b1 b2) md ba bo ti mm ∧ mc_tm m c i k 1 b1 b2 1 = k ∧ mc_tm m c i k 1 b1 b2 8 = c ∧ mc_tm m c i k 1 b1 b2 9 = i ∧ mc_tm m c i k 1 b1 b2 408 = m 408 ∧ mc_tm m c i k 1 b1 b2 409 = m 409 := by
  obtain ⟨h1, h2, h3, h4, h5, h6, h7, h8⟩ := h
  have e : ∀ j, 9 < j → mc_tm m c i k 1 b1 b2 j = m j := fun j hj => by
    unfold mc_tm
    rw [mu_n _ _ (by omega), mu_n _ _ (by omega), mu_n _ _ (by omega), mu_n _ _ (by omega), mu_n _ _ (by omega), mu_n _ _ (by omega)]
  refine ⟨⟨mcode_mu (mcode_mu (mcode_mu (mcode_mu (mcode_mu (mcode_mu h1 (by omega)) (by omega)) (by omega)) (by omega)) (by omega)) (by omega), ?_, ?_, ?_, ?_, ?_, ?_, ?_⟩, by simp [mc_tm, mu], by simp [mc_tm, mu], by simp [mc_tm, mu], e _ (by omega), e _ (by omega)⟩
  · rw [e _ (by omega), h2]
  · rw [e _ (by omega), h3]
  · rw [e _ (by omega), h4]
  · intro q; rw [e _ (by omega)]; exact h5 q
  · rw [e _ (by omega), h6]
  · rw [e _ (by omega), h7]
  · intro j hj; rw [e _ (by omega)]; exact h8 j hj
/-- a trap of the real machine comes to the monitor -/
theorem trapR {c i k b1 b2 : Nat} (h : smM Sg m md ba bo ti mm) : mc_trap c i k 1 b1 b2 tr ro rg m dk cs = (0, 36, 0, 65535, tr, ro, false, rg, mc_tm m c i k 1 b1 b2, dk, cs) := by
  have hc := (smM_tm (c := c) (i := i) (k := k) (b1 := b1) (b2 := b2) h).1.1
  unfold mc_trap mc_tk
  rw [hc 4 (by omega), hc 5 (by omega), hc 6 (by omega), hc 7 (by omega)]
  rfl
theorem gd_eq {n : Nat} (hSg : Sg + 410 = S) (hS2 : S ≤ 65535) : mc_gd S ((410 + ba) % 65536) (rb Sg ba bo) n ↔ mc_gd Sg ba bo n := by
  constructor
  · intro q; exact rb_gd.mp q.1
  · intro q
    refine ⟨rb_gd.mpr q, ?_⟩
    have := q.2
    omega
/-- the traps that the guest's machine has itself -/
theorem give_R {c i k b1 b2 : Nat} (hS : 474 ≤ S) (hS2 : S ≤ 65535) (hSg : Sg + 410 = S) (h : smM Sg m md ba bo ti mm) (hmd : md = 0 ∨ md = 1) (hc : 1 ≤ c ∧ c ≤ 5) (hne : md = 0 → c ≠ 1) (htr : tr = if md = 0 then 0 else ti) : RN S (fun R => sx Sg R (mc_trap c i k md ba bo ti false rg mm dk cs)) 110 1110 (mc_trap c i k 1 b1 b2 tr false rg m dk cs) := by
  rw [trapR h]
  obtain ⟨g1, g2, g3, g4, -, -⟩ := smM_tm (c := c) (i := i) (k := k) (b1 := b1) (b2 := b2) h
  refine RN.imp (fun s q => Or.inl q) ?_
  exact RN.mono (by omega) (by omega) (bl_give ⟨hS, by omega⟩ hS2 hSg g1 hmd g2 g3 g4 hc hne htr)
/-- what is done in the supervisor's stead -/
theorem emul_R {w n b1 b2 : Nat} (hS : 474 ≤ S) (hS2 : S ≤ 65535) (hSg : Sg + 410 = S) (h : smM Sg m 0 ba bo ti mm) (h408 : m 408 = (410 + ba) % 65536) (h409 : m 409 = rb Sg ba bo) (hop : (w / 64 = 0 ∨ 17 ≤ w / 64) ∧ w / 64 ≤ 24) (hb : ba < 65536) (hbo : bo < 65536) (hg : mc_gd Sg ba bo (pc + 1)) (hn : mm (ba + pc + 1) = n) (hn2 : n < 65536) (hr : ∀ j, rg j < 65536) : RN S (fun R => sx Sg R (mc_sp Sg w n pc ba bo ti rg mm dk cs)) 114 1114 (mc_trap 1 w pc 1 b1 b2 0 false rg m dk cs) := by
  rw [trapR h]
  obtain ⟨g1, g2, g3, g4, g5, g6⟩ := smM_tm (c := 1) (i := w) (k := pc) (b1 := b1) (b2 := b2) h
  generalize mc_tm m 1 w pc 1 b1 b2 = M at g1 g2 g3 g4 g5 g6 ⊢
  obtain ⟨m1, m10, m11, m12, m13, m403, m406, mmm⟩ := g1
  suffices hz : RN S (fun R => sx Sg R (mc_sp Sg w n pc ba bo ti rg mm dk cs)) 114 1114 (0, 36, 0, 65535, 0, false, false, rf (rg 0) (rg 1) (rg 2) (rg 3) (rg 4) (rg 5) (rg 6) (rg 7) rg, M, dk, cs) by
    rw [rf_all rg] at hz
    exact hz
  refine bb_36 ⟨hS, by omega⟩ m1 ?_
  rw [m10, if_pos rfl]
  have hsv : mu (mu (mu (mu (mu M 395 (rg 0)) 396 (rg 1)) 397 (rg 2)) 398 (rg 3)) 399 (rg 4) = sv M (rg 0) (rg 1) (rg 2) (rg 3) (rg 4) := rfl
  rw [hsv]
  have hX : nxM Sg (sv M (rg 0) (rg 1) (rg 2) (rg 3) (rg 4)) pc ba bo ti mm rg := by
    refine ⟨sv_code m1, ?_, ?_, ?_, ?_, ?_, ?_, ?_, ?_, ?_, ?_, ?_⟩
    · rw [sv_n (by omega), g2]
    · rw [sv_n (by omega), m10]
    · rw [sv_n (by omega), m11]
    · rw [sv_n (by omega), m12]
    · rw [sv_n (by omega)]; exact m13 rfl
    · rw [sv_n (by omega), m403]
    · rw [sv_n (by omega), m406]
    · rw [sv_n (by omega), g5, h408]
    · rw [sv_n (by omega), g6, h409]
    · intro i hi; rw [sv_n (by omega)]; exact mmm i hi
    · intro j hj
      have e : j = 0 ∨ j = 1 ∨ j = 2 ∨ j = 3 ∨ j = 4 := by omega
      rcases e with rfl | rfl | rfl | rfl | rfl <;> simp [sv, mu]
  have e8 : sv M (rg 0) (rg 1) (rg 2) (rg 3) (rg 4) 8 = 1 := by rw [sv_n (by omega), g3]
  have e9 : sv M (rg 0) (rg 1) (rg 2) (rg 3) (rg 4) 9 = w := by rw [sv_n (by omega), g4]
  refine bb_162 ⟨hS, by omega⟩ hX.1 ?_
  rw [e8, if_pos (show (1 + 65536 - 1) % 65536 = 0 by decide)]
  exact RN.mono (k := 0 + 103) (c := 0 + 1003) (by omega) (by omega) (bl_172 ⟨hS, by omega⟩ hS2 hSg hX e9 hop hb hbo hg hn hn2 hr)
end SMS
