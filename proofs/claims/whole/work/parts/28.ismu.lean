section SMU
variable {S Sg md pc ba bo ti tr : Nat} {ro : Bool} {rg m mm dk : Nat → Nat} {cs : mc_K}
/-- A STEP OF THE GUEST is one of the real machine, and what the monitor does behind it -/
theorem sim_step (hS : 474 ≤ S) (hS2 : S ≤ 65535) (hSg : Sg + 410 = S) (hmd : md = 0 ∨ md = 1) (hb : ba < 65536) (hbo : bo < 65536) (hr : ∀ j, rg j < 65536) (hmw : ∀ j, mm j < 65536) (hro : ro = true → md = 1) (hM : smM Sg m md ba bo ti mm) (h408 : m 408 = (410 + ba) % 65536) (h409 : m 409 = rb Sg ba bo) (htr : tr = if md = 0 then 0 else ti) : RN S (fun R => sx Sg R (mc_st Sg md pc ba bo ti ro rg mm dk cs)) 114 1114 (mc_st S 1 pc ((410 + ba) % 65536) (rb Sg ba bo) tr ro rg m dk cs) := by
  have GV : ∀ (c i k b1 b2 : Nat), (1 ≤ c ∧ c ≤ 5) → (md = 0 → c ≠ 1) → RN S (fun R => sx Sg R (mc_trap c i k md ba bo ti false rg mm dk cs)) 114 1114 (mc_trap c i k 1 b1 b2 tr false rg m dk cs) := fun c i k b1 b2 h1 h2 => RN.mono (by omega) (by omega) (give_R hS hS2 hSg hM hmd h1 h2 htr)
  cases ro with
  | true =>
    have h1 := hro rfl
    unfold mc_st
    rw [if_pos (show 1 = 1 ∧ true = true from ⟨rfl, rfl⟩), if_pos (show md = 1 ∧ true = true from ⟨h1, rfl⟩)]
    exact GV 4 0 pc _ _ (by omega) (by omega)
  | false =>
    by_cases ho : ordG Sg pc ba bo rg mm
    · exact RN.done (Or.inl (sim_ord hS2 hSg hmd hM h408 h409 htr ho))
    · unfold mc_st
      rw [if_neg (show ¬ (1 = 1 ∧ false = true) by simp), if_neg (show ¬ (md = 1 ∧ false = true) by simp)]
      by_cases g0 : mc_gd Sg ba bo pc
      · rw [if_neg (show ¬ ¬ mc_gd S ((410 + ba) % 65536) (rb Sg ba bo) pc from fun z => z ((gd_eq hSg hS2).mpr g0)), if_neg (show ¬ ¬ mc_gd Sg ba bo pc from fun z => z g0)]
        by_cases g1 : mc_gd Sg ba bo (pc + 1)
        · rw [if_neg (show ¬ ¬ mc_gd S ((410 + ba) % 65536) (rb Sg ba bo) (pc + 1) from fun z => z ((gd_eq hSg hS2).mpr g1)), if_neg (show ¬ ¬ mc_gd Sg ba bo (pc + 1) from fun z => z g1)]
          have q0 := g0.2
          have q1 := g1.2
          have eba : (410 + ba) % 65536 = 410 + ba := by omega
          have hrd : ∀ n, mc_gd Sg ba bo n → m ((410 + ba) % 65536 + n) = mm (ba + n) := fun n hn => by
            have := hn.2
            rw [eba, show 410 + ba + n = 410 + (ba + n) by omega]
            exact hM.2.2.2.2.2.2.2 _ this
          have hw : m ((410 + ba) % 65536 + pc) = mm (ba + pc) := hrd pc g0
          have hn : m ((410 + ba) % 65536 + pc + 1) = mm (ba + pc + 1) := hrd (pc + 1) g1
          rw [hw, hn]
          have ho2 : ¬ (1 ≤ mm (ba + pc) / 64 ∧ mm (ba + pc) / 64 ≤ 15 ∧ (2 ≤ mm (ba + pc) / 64 ∧ mm (ba + pc) / 64 ≤ 5 → mc_gd Sg ba bo (mc_ad (mm (ba + pc) / 64) (mm (ba + pc) % 8) (mm (ba + pc + 1)) rg))) := fun z => ho ⟨g0, g1, z⟩
          have hn2 := hmw (ba + pc + 1)
          generalize hwe : mm (ba + pc) = w at ho2 ⊢
          generalize hne : mm (ba + pc + 1) = n at ho2 hn2 ⊢
          unfold mc_ex
          by_cases o24 : 24 < w / 64
          · rw [if_pos o24, if_pos o24]
            exact GV 5 w pc _ _ (by omega) (by omega)
          · rw [if_neg o24, if_neg o24]
            by_cases op : w / 64 = 0 ∨ 17 ≤ w / 64
            · rw [if_pos (show 1 = 1 ∧ (w / 64 = 0 ∨ 17 ≤ w / 64) from ⟨rfl, op⟩)]
              rcases hmd with h0 | h0
              · subst h0
                rw [if_neg (show ¬ (0 = 1 ∧ (w / 64 = 0 ∨ 17 ≤ w / 64)) by omega), if_neg (show ¬ w / 64 = 16 by omega), if_neg (show ¬ (2 ≤ w / 64 ∧ w / 64 ≤ 5) by omega), if_neg (show ¬ (1 ≤ w / 64 ∧ w / 64 ≤ 15) by omega)]
                rw [if_pos rfl] at htr
                subst htr
                exact emul_R hS hS2 hSg hM h408 h409 ⟨op, by omega⟩ hb hbo g1 hne hn2 hr
              · rw [if_pos (show md = 1 ∧ (w / 64 = 0 ∨ 17 ≤ w / 64) from ⟨h0, op⟩)]
                exact GV 1 w pc _ _ (by omega) (by omega)
            · rw [if_neg (show ¬ (1 = 1 ∧ (w / 64 = 0 ∨ 17 ≤ w / 64)) from fun z => op z.2), if_neg (show ¬ (md = 1 ∧ (w / 64 = 0 ∨ 17 ≤ w / 64)) from fun z => op z.2)]
              by_cases o16 : w / 64 = 16
              · rw [if_pos o16, if_pos o16]
                exact GV 3 n (pc + 2) _ _ (by omega) (by omega)
              · rw [if_neg o16, if_neg o16]
                have oa : 2 ≤ w / 64 ∧ w / 64 ≤ 5 := by
                  by_cases z : 2 ≤ w / 64 ∧ w / 64 ≤ 5
                  · exact z
                  · exact absurd ⟨by omega, by omega, fun y => absurd y z⟩ ho2
                have ga : ¬ mc_gd Sg ba bo (mc_ad (w / 64) (w % 8) n rg) := fun z => ho2 ⟨by omega, by omega, fun _ => z⟩
                rw [if_pos oa, if_pos oa, if_neg (fun z => ga ((gd_eq hSg hS2).mp z)), if_neg ga]
                exact GV 2 _ pc _ _ (by omega) (by omega)
        · rw [if_pos (show ¬ mc_gd S ((410 + ba) % 65536) (rb Sg ba bo) (pc + 1) from fun z => g1 ((gd_eq hSg hS2).mp z)), if_pos g1]
          exact GV 2 (pc + 1) pc _ _ (by omega) (by omega)
      · rw [if_pos (show ¬ mc_gd S ((410 + ba) % 65536) (rb Sg ba bo) pc from fun z => g0 ((gd_eq hSg hS2).mp z)), if_pos g0]
        exact GV 2 pc pc _ _ (by omega) (by omega)
end SMU
