section BOO
variable {S Sg : Nat} {m mm dk g : Nat → Nat} {cs : mc_K}
/-- THE MONITOR'S BEGINNING: from a machine that begins to the guest's first turn -/
theorem boot (hS : 474 ≤ S) (hS2 : S ≤ 65535) (hSg : Sg + 410 = S) (hm : ∀ a, a < 410 → m a = mW.getD a 0) (hmm : ∀ i, i < Sg → m (410 + i) = mm i) (hg0 : g 0 = 0) (hg1 : g 1 = 0) : RN S (fun R => sm Sg R (0, 16, 0, Sg, 0, false, false, g, mm, dk, cs)) 20 420 (0, 16, 0, S, 0, false, false, g, m, dk, cs) := by
  have hc : mcode m := fun a ha => hm a (by omega)
  have m6 : m 406 = 1 := by rw [hm 406 (by omega)]; decide +kernel
  have m7 : m 407 = 16 := by rw [hm 407 (by omega)]; decide +kernel
  have m8 : m 408 = 410 := by rw [hm 408 (by omega)]; decide +kernel
  have m10 : m 10 = 0 := by rw [hm 10 (by omega)]; decide +kernel
  have m11 : m 11 = 0 := by rw [hm 11 (by omega)]; decide +kernel
  have m13 : m 13 = 0 := by rw [hm 13 (by omega)]; decide +kernel
  suffices hz : RN S (fun R => sm Sg R (0, 16, 0, Sg, 0, false, false, g, mm, dk, cs)) 20 420 (0, 16, 0, S, 0, false, false, rf (g 0) (g 1) (g 2) (g 3) (g 4) (g 5) (g 6) (g 7) g, m, dk, cs) by
    rw [rf_all g] at hz
    exact hz
  refine bb_16 ⟨hS, Nat.le_refl S⟩ hc ?_
  rw [m6, m7, m8, show (S + 65536 - 410) % 65536 = Sg by omega]
  refine RN.done ?_
  have hrf : rf 0 0 (g 2) (g 3) (g 4) (g 5) (g 6) (g 7) g = g := by
    have h := rf_all g
    rw [hg0, hg1] at h
    exact h
  rw [hrf]
  have e : ∀ j, j ≠ 0 → j ≠ 1 → j ≠ 2 → j ≠ 3 → j ≠ 403 → j ≠ 12 → j ≠ 409 → mu (mu (mu (mu (mu (mu (mu m 0 0) 1 18) 2 0) 3 S) 403 Sg) 12 Sg) 409 Sg j = m j := fun j a0 a1 a2 a3 a4 a5 a6 => by
    rw [mu_n _ _ a6, mu_n _ _ a5, mu_n _ _ a4, mu_n _ _ a3, mu_n _ _ a2, mu_n _ _ a1, mu_n _ _ a0]
  have hrb : rb Sg 0 Sg = Sg := by
    unfold rb
    rw [if_pos (by omega)]
    split <;> omega
  refine ⟨by simp, rfl, rfl, hrb.symm, rfl, rfl, rfl, rfl, rfl, rfl, rfl, ?_, ?_, mcode_mu (mcode_mu (mcode_mu (mcode_mu (mcode_mu (mcode_mu (mcode_mu hc (by omega)) (by omega)) (by omega)) (by omega)) (by omega)) (by omega)) (by omega), ?_, ?_, ?_, ?_, ?_, ?_, ?_⟩
  · rw [e _ (by decide) (by decide) (by decide) (by decide) (by decide) (by decide) (by decide), m8]
  · rw [mu_s]
  · rw [e _ (by decide) (by decide) (by decide) (by decide) (by decide) (by decide) (by decide), m10]
  · rw [e _ (by decide) (by decide) (by decide) (by decide) (by decide) (by decide) (by decide), m11]
  · simp [mu]
  · intro _; rw [e _ (by decide) (by decide) (by decide) (by decide) (by decide) (by decide) (by decide), m13]
  · simp [mu]
  · rw [e _ (by decide) (by decide) (by decide) (by decide) (by decide) (by decide) (by decide), m6]
  · intro i hi
    rw [e _ (by omega) (by omega) (by omega) (by omega) (by omega) (by omega) (by omega)]
    exact hmm i hi
end BOO
