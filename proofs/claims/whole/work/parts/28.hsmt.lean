section SMT
variable {S Sg md pc ba bo ti tr : Nat} {ro : Bool} {rg m mm dk : Nat → Nat} {cs : mc_K}
theorem sm_go {nx : Nat} (hmd : md = 0 ∨ md = 1) (htr : tr = if md = 0 then 0 else ti) (h : smM Sg m md ba bo ti mm) (h408 : m 408 = (410 + ba) % 65536) (h409 : m 409 = rb Sg ba bo) : sm Sg (mc_go nx 1 ((410 + ba) % 65536) (rb Sg ba bo) tr false rg m dk cs) (mc_go nx md ba bo ti false rg mm dk cs) := by
  unfold mc_go
  rcases hmd with rfl | rfl
  · rw [if_pos rfl] at htr
    subst htr
    rw [if_neg (by omega), if_neg (by omega)]
    exact ⟨rfl, rfl, rfl, rfl, rfl, rfl, rfl, rfl, rfl, rfl, rfl, h408, h409, h⟩
  · rw [if_neg (by decide)] at htr
    subst htr
    by_cases hc : 1 = 1 ∧ 0 < tr
    · rw [if_pos hc, if_pos hc]
      obtain ⟨h1, h2, h3, h4, h5, h6, h7, h8⟩ := h
      exact ⟨rfl, rfl, rfl, rfl, rfl, rfl, rfl, rfl, rfl, rfl, rfl, h408, h409, h1, h2, h3, h4, fun q => by omega, h6, h7, h8⟩
    · rw [if_neg hc, if_neg hc]
      exact ⟨rfl, rfl, rfl, rfl, rfl, rfl, rfl, rfl, rfl, rfl, rfl, h408, h409, h⟩
theorem smM_mu {q v : Nat} (h : smM Sg m md ba bo ti mm) : smM Sg (mu m (410 + q) v) md ba bo ti (mu mm q v) := by
  obtain ⟨h1, h2, h3, h4, h5, h6, h7, h8⟩ := h
  have e : ∀ j, j < 410 → mu m (410 + q) v j = m j := fun j hj => mu_n _ _ (by omega)
  refine ⟨mcode_mu h1 (by omega), ?_, ?_, ?_, ?_, ?_, ?_, ?_⟩
  · rw [e _ (by omega), h2]
  · rw [e _ (by omega), h3]
  · rw [e _ (by omega), h4]
  · intro z; rw [e _ (by omega)]; exact h5 z
  · rw [e _ (by omega), h6]
  · rw [e _ (by omega), h7]
  · intro i hi
    simp only [mu]
    rw [icn (show 410 + i = 410 + q ↔ i = q by omega), h8 i hi]
/-- ordinary, in either mode: an operation 1 to 15 whose addresses are good -/
def ordG (Sg pc ba bo : Nat) (rg mm : Nat → Nat) : Prop := mc_gd Sg ba bo pc ∧ mc_gd Sg ba bo (pc + 1) ∧ 1 ≤ mm (ba + pc) / 64 ∧ mm (ba + pc) / 64 ≤ 15 ∧ (2 ≤ mm (ba + pc) / 64 ∧ mm (ba + pc) / 64 ≤ 5 → mc_gd Sg ba bo (mc_ad (mm (ba + pc) / 64) (mm (ba + pc) % 8) (mm (ba + pc + 1)) rg))
/-- AN ORDINARY STEP of the guest is one of the real machine -/
theorem sim_ord (hS2 : S ≤ 65535) (hSg : Sg + 410 = S) (hmd : md = 0 ∨ md = 1) (hM : smM Sg m md ba bo ti mm) (h408 : m 408 = (410 + ba) % 65536) (h409 : m 409 = rb Sg ba bo) (htr : tr = if md = 0 then 0 else ti) (ho : ordG Sg pc ba bo rg mm) : sm Sg (mc_st S 1 pc ((410 + ba) % 65536) (rb Sg ba bo) tr false rg m dk cs) (mc_st Sg md pc ba bo ti false rg mm dk cs) := by
  obtain ⟨g0, g1, o1, o2, o3⟩ := ho
  have q0 := g0.2
  have q1 := g1.2
  have eba : (410 + ba) % 65536 = 410 + ba := by omega
  have hrd : ∀ n, mc_gd Sg ba bo n → m ((410 + ba) % 65536 + n) = mm (ba + n) := fun n hn => by
    have := hn.2
    rw [eba, show 410 + ba + n = 410 + (ba + n) by omega]
    exact hM.2.2.2.2.2.2.2 _ this
  have hw : m ((410 + ba) % 65536 + pc) = mm (ba + pc) := hrd pc g0
  have hn : m ((410 + ba) % 65536 + pc + 1) = mm (ba + pc + 1) := hrd (pc + 1) g1
  unfold mc_st
  rw [if_neg (show ¬ (1 = 1 ∧ false = true) by simp), if_neg (show ¬ ¬ mc_gd S ((410 + ba) % 65536) (rb Sg ba bo) pc from fun z => z ((gd_eq hSg hS2).mpr g0)), if_neg (show ¬ ¬ mc_gd S ((410 + ba) % 65536) (rb Sg ba bo) (pc + 1) from fun z => z ((gd_eq hSg hS2).mpr g1)), if_neg (show ¬ (md = 1 ∧ false = true) by simp), if_neg (show ¬ ¬ mc_gd Sg ba bo pc from fun z => z g0), if_neg (show ¬ ¬ mc_gd Sg ba bo (pc + 1) from fun z => z g1), hw, hn]
  generalize mm (ba + pc) = w at o1 o2 o3 ⊢
  generalize mm (ba + pc + 1) = n at o3 ⊢
  unfold mc_ex
  rw [if_neg (show ¬ 24 < w / 64 by omega), if_neg (show ¬ (1 = 1 ∧ (w / 64 = 0 ∨ 17 ≤ w / 64)) by omega), if_neg (show ¬ w / 64 = 16 by omega), if_neg (show ¬ 24 < w / 64 by omega), if_neg (show ¬ (md = 1 ∧ (w / 64 = 0 ∨ 17 ≤ w / 64)) by omega), if_neg (show ¬ w / 64 = 16 by omega)]
  by_cases oa : 2 ≤ w / 64 ∧ w / 64 ≤ 5
  · have ga := o3 oa
    have ga2 := ga.2
    rw [if_pos oa, if_pos oa, if_pos ((gd_eq hSg hS2).mpr ga), if_pos ga]
    by_cases oL : w / 64 = 2 ∨ w / 64 = 4
    · rw [if_pos oL, if_pos oL, hrd _ ga]
      exact sm_go hmd htr hM h408 h409
    · rw [if_neg oL, if_neg oL, eba, show 410 + ba + mc_ad (w / 64) (w % 8) n rg = 410 + (ba + mc_ad (w / 64) (w % 8) n rg) by omega]
      have z := sm_go (nx := pc + 2) (rg := rg) (dk := dk) (cs := cs) hmd htr (smM_mu (q := ba + mc_ad (w / 64) (w % 8) n rg) (v := rg (w / 8 % 8)) hM) (by rw [mu_n _ _ (by omega), h408]) (by rw [mu_n _ _ (by omega), h409])
      rw [eba] at z
      exact z
  · rw [if_neg oa, if_neg oa, if_pos ⟨o1, o2⟩, if_pos ⟨o1, o2⟩]
    exact sm_go hmd htr hM h408 h409
end SMT
