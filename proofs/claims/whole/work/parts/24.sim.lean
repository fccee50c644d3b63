/-! THE MONITOR'S WAYS (mine): from a trap to the guest's next turn -/
section SIM
def rb (Sg ba bo : Nat) : Nat := if ba < Sg then (if Sg - ba < bo then Sg - ba else bo) else 0
def tli (o nm v13 ti : Nat) : Nat := if nm = 0 then (if o = 0 then ti else 0) else (if o = 0 ∧ v13 ≠ 0 then v13 else ti)
def tlm (o nm ti : Nat) (M : Nat → Nat) : Nat → Nat := if nm = 0 then (if o = 0 then mu M 10 0 else mu (mu M 10 0) 13 ti) else mu M 10 1
def tl4 (m : Nat → Nat) (p : Nat) : Nat → Nat := mu (mu (mu (mu m 407 (m (p + 1))) 11 (m (p + 2))) 12 (m (p + 3))) 408 ((410 + m (p + 2)) % 65536)
variable {r0 r1 r2 r3 r4 r5 r6 r7 : Nat} {g : Nat → Nat} {S k c bo ti : Nat} {Q : mc_S → Prop} {ro : Bool} {m dk : Nat → Nat} {cs : mc_K}
theorem bl_112 {o nm b9 : Nat} (hS : 474 ≤ S ∧ S ≤ bo) (hc : mcode m) (h6 : m 406 = 1) (kk : Q (1, m 407, m 408, b9, tli o nm (m 13) ti, false, false, rf (m 395) (m 396) (m 397) (m 398) (m 399) r5 r6 r7 g, tlm o nm ti (mu m 409 b9), dk, cs)) : RN S Q (k + 30) (c + 900) (0, 112, 0, bo, ti, false, false, rf o nm r2 b9 r4 r5 r6 r7 g, m, dk, cs) := by
  refine bb_112 hS hc ?_
  have hc1 := mcode_mu (a := 409) (x := b9) hc (by omega)
  by_cases hn : nm = 0
  · rw [if_pos hn]
    refine bb_146 hS hc1 ?_
    have hc2 := mcode_mu (a := 10) (x := nm) hc1 (by omega)
    by_cases ho : o = 0
    · rw [if_pos ho]
      refine bb_122 hS hc2 ?_
      refine RN.done ?_
      simpa [tli, tlm, hn, ho, mu, h6] using kk
    · rw [if_neg ho]
      refine bb_150 hS hc2 ?_
      have hc3 := mcode_mu (a := 13) (x := ti) hc2 (by omega)
      by_cases ht : ti = 0
      · rw [if_pos ht]
        refine bb_122 hS hc3 ?_
        refine RN.done ?_
        simpa [tli, tlm, hn, ho, mu, h6, ht] using kk
      · rw [if_neg ht]
        refine bb_156 hS hc3 ?_
        refine bb_122 hS hc3 ?_
        refine RN.done ?_
        simpa [tli, tlm, hn, ho, mu, h6, ht] using kk
  · rw [if_neg hn]
    refine bb_116 hS hc1 ?_
    have hc2 := mcode_mu (a := 10) (x := 1) hc1 (by omega)
    by_cases ho : o = 0
    · rw [if_pos ho]
      refine bb_138 hS hc2 ?_
      have e13 : mu (mu m 409 b9) 10 1 13 = m 13 := by simp [mu]
      rw [e13]
      by_cases hv : m 13 = 0
      · rw [if_pos hv]
        refine bb_122 hS hc2 ?_
        refine RN.done ?_
        simpa [tli, tlm, hn, ho, mu, h6, hv] using kk
      · rw [if_neg hv]
        refine bb_142 hS hc2 ?_
        refine bb_122 hS hc2 ?_
        refine RN.done ?_
        simpa [tli, tlm, hn, ho, mu, h6, hv] using kk
    · rw [if_neg ho]
      refine bb_122 hS hc2 ?_
      refine RN.done ?_
      simpa [tli, tlm, hn, ho, mu, h6] using kk
theorem bl_74 {Sg p o : Nat} (hS : 474 ≤ S ∧ S ≤ bo) (hS2 : S ≤ 65535) (hc : mcode m) (h6 : m 406 = 1) (h3 : m 403 = Sg) (hSg : Sg + 410 = S) (hp : 410 ≤ p ∧ p + 3 < S) (kk : Q (1, m (p + 1), (410 + m (p + 2)) % 65536, rb Sg (m (p + 2)) (m (p + 3)), tli o (m p) (m 13) ti, false, false, rf (m 395) (m 396) (m 397) (m 398) (m 399) r5 r6 r7 g, tlm o (m p) ti (mu (tl4 m p) 409 (rb Sg (m (p + 2)) (m (p + 3)))), dk, cs)) : RN S Q (k + 50) (c + 950) (0, 74, 0, bo, ti, false, false, rf o p r2 r3 r4 r5 r6 r7 g, m, dk, cs) := by
  refine bb_74 hS hc (a74 := p + 1) (by omega) (by omega) (a78 := p + 2) (by omega) (by omega) (a82 := p + 3) (by omega) (by omega) (a86 := p) (by omega) (by omega) ?_
  have q1 : mu m 407 (m (p + 1)) (p + 2) = m (p + 2) := mu_n _ _ (by omega)
  rw [q1]
  have q2 : mu (mu m 407 (m (p + 1))) 11 (m (p + 2)) (p + 3) = m (p + 3) := (mu_n _ _ (by omega)).trans (mu_n _ _ (by omega))
  rw [q2]
  have q3 : mu (mu (mu m 407 (m (p + 1))) 11 (m (p + 2))) 12 (m (p + 3)) p = m p := (mu_n _ _ (by omega)).trans ((mu_n _ _ (by omega)).trans (mu_n _ _ (by omega)))
  rw [q3, h3]
  have hM : mu (mu (mu (mu m 407 (m (p + 1))) 11 (m (p + 2))) 12 (m (p + 3))) 408 ((410 + m (p + 2)) % 65536) = tl4 m p := rfl
  rw [hM]
  have hc' : mcode (tl4 m p) := mcode_mu (mcode_mu (mcode_mu (mcode_mu hc (by omega)) (by omega)) (by omega)) (by omega)
  have f6 : tl4 m p 406 = 1 := by simp [tl4, mu, h6]
  have f7 : tl4 m p 407 = m (p + 1) := by simp [tl4, mu]
  have f8 : tl4 m p 408 = (410 + m (p + 2)) % 65536 := by simp [tl4, mu]
  have f11 : tl4 m p 11 = m (p + 2) := by simp [tl4, mu]
  have f13 : tl4 m p 13 = m 13 := by simp [tl4, mu]
  have fa : tl4 m p 395 = m 395 := by simp [tl4, mu]
  have fb : tl4 m p 396 = m 396 := by simp [tl4, mu]
  have fc : tl4 m p 397 = m 397 := by simp [tl4, mu]
  have fd : tl4 m p 398 = m 398 := by simp [tl4, mu]
  have fe : tl4 m p 399 = m 399 := by simp [tl4, mu]
  by_cases hb : m (p + 2) < Sg
  · rw [if_pos hb, if_neg (by decide)]
    refine bb_100 hS hc' ?_
    have e1 : (Sg + 65536 - m (p + 2)) % 65536 = Sg - m (p + 2) := by omega
    rw [f11, e1]
    by_cases hb2 : Sg - m (p + 2) < m (p + 3)
    · have er : rb Sg (m (p + 2)) (m (p + 3)) = Sg - m (p + 2) := by simp [rb, hb, hb2]
      rw [er] at kk
      rw [if_pos hb2, if_neg (by decide)]
      refine bb_110 hS hc' ?_
      refine bl_112 hS hc' f6 ?_
      rw [f7, f8, f13, fa, fb, fc, fd, fe]
      exact kk
    · have er : rb Sg (m (p + 2)) (m (p + 3)) = m (p + 3) := by simp [rb, hb, hb2]
      rw [er] at kk
      rw [if_neg hb2, if_pos rfl]
      refine bl_112 hS hc' f6 ?_
      rw [f7, f8, f13, fa, fb, fc, fd, fe]
      exact kk
  · have er : rb Sg (m (p + 2)) (m (p + 3)) = 0 := by simp [rb, hb]
    rw [er] at kk
    rw [if_neg hb, if_pos rfl]
    refine bb_134 hS hc' ?_
    refine bl_112 hS hc' f6 ?_
    rw [f7, f8, f13, fa, fb, fc, fd, fe]
    exact kk
end SIM
