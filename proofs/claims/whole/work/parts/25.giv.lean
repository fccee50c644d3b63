/-! A TRAP GIVEN ON TO THE GUEST -/
section GIV
theorem icn {c d : Prop} [Decidable c] [Decidable d] {a b : Nat} (h : c ↔ d) : (if c then a else b) = if d then a else b := by
  by_cases hd : d
  · rw [if_pos hd, if_pos (h.mpr hd)]
  · rw [if_neg hd, if_neg (fun q => hd (h.mp q))]
def smM (Sg : Nat) (m : Nat → Nat) (md ba bo ti : Nat) (mm : Nat → Nat) : Prop := mcode m ∧ m 10 = md ∧ m 11 = ba ∧ m 12 = bo ∧ (md = 0 → m 13 = ti) ∧ m 403 = Sg ∧ m 406 = 1 ∧ ∀ i, i < Sg → m (410 + i) = mm i
/-- the real machine R, at its guest's turn, bears the guest G of Sg words -/
def sm (Sg : Nat) (R G : mc_S) : Prop := match R, G with
  | (md', pc', ba', bo', ti', ro', ha', rg', m, dk', cs'), (md, pc, ba, bo, ti, ro, ha, rg, mm, dk, cs) => md' = 1 ∧ pc' = pc ∧ ba' = (410 + ba) % 65536 ∧ bo' = rb Sg ba bo ∧ ti' = (if md = 0 then 0 else ti) ∧ ro' = ro ∧ ha' = false ∧ ha = false ∧ rg' = rg ∧ dk' = dk ∧ cs' = cs ∧ m 408 = ba' ∧ m 409 = bo' ∧ smM Sg m md ba bo ti mm
def sv (m : Nat → Nat) (r0 r1 r2 r3 r4 : Nat) : Nat → Nat := mu (mu (mu (mu (mu m 395 r0) 396 r1) 397 r2) 398 r3) 399 r4
def gv (m : Nat → Nat) (o : Nat) : Nat → Nat := mu (mu (mu (mu (mu (mu m 410 o) 411 (m 1)) 412 (m 11)) 413 (m 12)) 418 (m 8)) 419 (m 9)
theorem sv_n {m : Nat → Nat} {r0 r1 r2 r3 r4 j : Nat} (h : j < 395 ∨ 399 < j) : sv m r0 r1 r2 r3 r4 j = m j := by
  unfold sv
  rw [mu_n _ _ (by omega), mu_n _ _ (by omega), mu_n _ _ (by omega), mu_n _ _ (by omega), mu_n _ _ (by omega)]
theorem gv_n {m : Nat → Nat} {o j : Nat} (h : j < 410) : gv m o j = m j := by
  unfold gv
  rw [mu_n _ _ (by omega), mu_n _ _ (by omega), mu_n _ _ (by omega), mu_n _ _ (by omega), mu_n _ _ (by omega), mu_n _ _ (by omega)]
theorem sv_code {m : Nat → Nat} {r0 r1 r2 r3 r4 : Nat} (h : mcode m) : mcode (sv m r0 r1 r2 r3 r4) := mcode_mu (mcode_mu (mcode_mu (mcode_mu (mcode_mu h (by omega)) (by omega)) (by omega)) (by omega)) (by omega)
theorem gv_code {m : Nat → Nat} {o : Nat} (h : mcode m) : mcode (gv m o) := mcode_mu (mcode_mu (mcode_mu (mcode_mu (mcode_mu (mcode_mu h (by omega)) (by omega)) (by omega)) (by omega)) (by omega)) (by omega)
theorem tl4_n {m : Nat → Nat} {p j : Nat} (h : j ≠ 407 ∧ j ≠ 11 ∧ j ≠ 12 ∧ j ≠ 408) : tl4 m p j = m j := by
  unfold tl4
  rw [mu_n _ _ (by omega), mu_n _ _ (by omega), mu_n _ _ (by omega), mu_n _ _ (by omega)]
theorem tlm_n {o nm ti j : Nat} {M : Nat → Nat} (h : j ≠ 10 ∧ j ≠ 13) : tlm o nm ti M j = M j := by
  unfold tlm
  repeat' split
  · rw [mu_n _ _ (by omega)]
  · rw [mu_n _ _ (by omega), mu_n _ _ (by omega)]
  · rw [mu_n _ _ (by omega)]
theorem tlm_code {o nm ti : Nat} {M : Nat → Nat} (h : mcode M) : mcode (tlm o nm ti M) := by
  unfold tlm
  repeat' split
  · exact mcode_mu h (by omega)
  · exact mcode_mu (mcode_mu h (by omega)) (by omega)
  · exact mcode_mu h (by omega)
theorem tl4_code {m : Nat → Nat} {p : Nat} (h : mcode m) : mcode (tl4 m p) := mcode_mu (mcode_mu (mcode_mu (mcode_mu h (by omega)) (by omega)) (by omega)) (by omega)
/-- the guest's new status, told by the words p to p + 3 of the real memory, which are the guest's q to q + 3 -/
theorem sm_tell {Sg p q o tr ti : Nat} {m rg mm dk : Nat → Nat} {cs : mc_K} {g0 : Nat → Nat} (hc : mcode m) (h3 : m 403 = Sg) (h6 : m 406 = 1) (hmm : ∀ i, i < Sg → m (410 + i) = mm i) (hp : p = 410 + q) (hq : q + 3 < Sg) (ho : o = 0 ∨ o = 1) (h13 : o = 0 → m 13 = ti) (htr : tr = if o = 0 then 0 else ti) (hrg : rf (m 395) (m 396) (m 397) (m 398) (m 399) (rg 5) (rg 6) (rg 7) g0 = rg) : sm Sg (1, m (p + 1), (410 + m (p + 2)) % 65536, rb Sg (m (p + 2)) (m (p + 3)), tli o (m p) (m 13) tr, false, false, rf (m 395) (m 396) (m 397) (m 398) (m 399) (rg 5) (rg 6) (rg 7) g0, tlm o (m p) tr (mu (tl4 m p) 409 (rb Sg (m (p + 2)) (m (p + 3)))), dk, cs) (mc_tk q ti false rg mm dk cs) := by
  have e0 : m p = mm q := by rw [hp]; exact hmm q (by omega)
  have e1 : m (p + 1) = mm (q + 1) := by rw [hp]; exact hmm (q + 1) (by omega)
  have e2 : m (p + 2) = mm (q + 2) := by rw [hp]; exact hmm (q + 2) (by omega)
  have e3 : m (p + 3) = mm (q + 3) := by rw [hp]; exact hmm (q + 3) (by omega)
  rw [e0, e1, e2, e3]
  have f11 : tl4 m p 11 = mm (q + 2) := by simp [tl4, mu, e2]
  have f12 : tl4 m p 12 = mm (q + 3) := by simp [tl4, mu, e3]
  have f8 : tl4 m p 408 = (410 + mm (q + 2)) % 65536 := by simp [tl4, mu, e2]
  unfold mc_tk sm smM
  refine ⟨rfl, rfl, rfl, rfl, ?_, rfl, rfl, rfl, hrg, rfl, rfl, ?_, ?_, tlm_code (mcode_mu (tl4_code hc) (by omega)), ?_, ?_, ?_, ?_, ?_, ?_, ?_⟩
  · unfold tli
    by_cases hz : mm q = 0
    · rw [if_pos hz, if_pos hz, if_pos rfl]
      rcases ho with h | h
      · rw [if_pos h, htr, if_pos h]
      · rw [if_neg (by omega)]
    · rw [if_neg hz, if_neg hz, if_neg (show ¬ ((1 : Nat) = 0) by decide)]
      rcases ho with h | h
      · have h1 := h13 h
        by_cases hv : m 13 = 0
        · rw [if_neg (show ¬ (o = 0 ∧ m 13 ≠ 0) from fun z => z.2 hv), htr, if_pos h]; omega
        · rw [if_pos (show o = 0 ∧ m 13 ≠ 0 from ⟨h, hv⟩), h1]
      · rw [if_neg (show ¬ (o = 0 ∧ m 13 ≠ 0) from fun z => by omega), htr, if_neg (show ¬ o = 0 by omega)]
  · rw [tlm_n (by omega), mu_n _ _ (by decide), f8]
  · rw [tlm_n (by omega), mu_s]
  · unfold tlm
    by_cases hz : mm q = 0
    · rw [if_pos hz, if_pos hz]
      split
      · rw [mu_s]
      · rw [mu_n _ _ (by decide), mu_s]
    · rw [if_neg hz, if_neg hz, mu_s]
  · rw [tlm_n (by omega), mu_n _ _ (by decide), f11]
  · rw [tlm_n (by omega), mu_n _ _ (by decide), f12]
  · intro hz
    have hz2 : mm q = 0 := by
      by_cases z : mm q = 0
      · exact z
      · rw [if_neg z] at hz; cases hz
    unfold tlm
    rw [if_pos hz2]
    rcases ho with h | h
    · rw [if_pos h, mu_n _ _ (by decide), mu_n _ _ (by decide), tl4_n (by omega)]
      exact h13 h
    · rw [if_neg (by omega), mu_s, htr, if_neg (by omega)]
  · rw [tlm_n (by omega), mu_n _ _ (by decide), tl4_n (by omega), h3]
  · rw [tlm_n (by omega), mu_n _ _ (by decide), tl4_n (by omega), h6]
  · intro i hi
    rw [tlm_n (by omega), mu_n _ _ (by omega), tl4_n (by omega)]
    exact hmm i hi
/-- from the trap's entry to the guest's turn, the trap being the guest's own -/
theorem bl_give {S Sg bo' md ba bo ti tr c i k : Nat} {m rg mm dk : Nat → Nat} {cs : mc_K} (hS : 474 ≤ S ∧ S ≤ bo') (hS2 : S ≤ 65535) (hSg : Sg + 410 = S) (hM : smM Sg m md ba bo ti mm) (hmd : md = 0 ∨ md = 1) (h1 : m 1 = k) (h8 : m 8 = c) (h9 : m 9 = i) (hc : 1 ≤ c ∧ c ≤ 5) (hne : md = 0 → c ≠ 1) (htr : tr = if md = 0 then 0 else ti) : RN S (fun R => sm Sg R (mc_trap c i k md ba bo ti false rg mm dk cs)) 100 1100 (0, 36, 0, bo', tr, false, false, rg, m, dk, cs) := by
  obtain ⟨hco, m10, m11, m12, m13, m403, m406, hmm⟩ := hM
  suffices hz : RN S (fun R => sm Sg R (mc_trap c i k md ba bo ti false rg mm dk cs)) 100 1100 (0, 36, 0, bo', tr, false, false, rf (rg 0) (rg 1) (rg 2) (rg 3) (rg 4) (rg 5) (rg 6) (rg 7) rg, m, dk, cs) by
    rw [rf_all rg] at hz
    exact hz
  refine bb_36 hS hco ?_
  rw [m10]
  have hsv : mu (mu (mu (mu (mu m 395 (rg 0)) 396 (rg 1)) 397 (rg 2)) 398 (rg 3)) 399 (rg 4) = sv m (rg 0) (rg 1) (rg 2) (rg 3) (rg 4) := rfl
  rw [hsv]
  have hc1 : mcode (sv m (rg 0) (rg 1) (rg 2) (rg 3) (rg 4)) := sv_code hco
  generalize hMs : sv m (rg 0) (rg 1) (rg 2) (rg 3) (rg 4) = ms at hc1 ⊢
  have s1 : ms 1 = k := by rw [← hMs, sv_n (by omega), h1]
  have s8 : ms 8 = c := by rw [← hMs, sv_n (by omega), h8]
  have s9 : ms 9 = i := by rw [← hMs, sv_n (by omega), h9]
  have s11 : ms 11 = ba := by rw [← hMs, sv_n (by omega), m11]
  have s12 : ms 12 = bo := by rw [← hMs, sv_n (by omega), m12]
  have s13 : md = 0 → ms 13 = ti := fun q => by rw [← hMs, sv_n (by omega)]; exact m13 q
  have s403 : ms 403 = Sg := by rw [← hMs, sv_n (by omega), m403]
  have s406 : ms 406 = 1 := by rw [← hMs, sv_n (by omega), m406]
  have sg : ∀ j, j < Sg → ms (410 + j) = mm j := fun j hj => by rw [← hMs, sv_n (by omega)]; exact hmm j hj
  have r0 : ms 395 = rg 0 := by rw [← hMs]; simp [sv, mu]
  have r1 : ms 396 = rg 1 := by rw [← hMs]; simp [sv, mu]
  have r2 : ms 397 = rg 2 := by rw [← hMs]; simp [sv, mu]
  have r3 : ms 398 = rg 3 := by rw [← hMs]; simp [sv, mu]
  have r4 : ms 399 = rg 4 := by rw [← hMs]; simp [sv, mu]
  -- from 50 on
  have K : ∀ (x1 x2 : Nat) (kk cc : Nat), RN S (fun R => sm Sg R (mc_trap c i k md ba bo ti false rg mm dk cs)) (kk + 62) (cc + 962) (0, 50, 0, bo', tr, false, false, rf md x1 x2 (rg 3) (rg 4) (rg 5) (rg 6) (rg 7) rg, ms, dk, cs) := by
    intro x1 x2 kk cc
    refine bb_50 hS hc1 ?_
    have hgv : mu (mu (mu (mu (mu (mu ms 410 md) 411 (ms 1)) 412 (ms 11)) 413 (ms 12)) 418 (ms 8)) 419 (ms 9) = gv ms md := rfl
    rw [hgv]
    refine bl_74 (Sg := Sg) (p := 414) hS hS2 (gv_code hc1) (by rw [gv_n (by omega), s406]) (by rw [gv_n (by omega), s403]) hSg (by omega) ?_
    have hmem : ∀ j, j < Sg → gv ms md (410 + j) = mc_tm mm c i k md ba bo j := by
      intro j hj
      unfold gv mc_tm
      rw [s1, s8, s9, s11, s12]
      simp only [mu]
      rw [icn (show 410 + j = 419 ↔ j = 9 by omega), icn (show 410 + j = 418 ↔ j = 8 by omega), icn (show 410 + j = 413 ↔ j = 3 by omega), icn (show 410 + j = 412 ↔ j = 2 by omega), icn (show 410 + j = 411 ↔ j = 1 by omega), icn (show 410 + j = 410 ↔ j = 0 by omega), sg j hj]
    have e13 : md = 0 → gv ms md 13 = ti := fun q => by rw [gv_n (by omega)]; exact s13 q
    have hrg : rf (gv ms md 395) (gv ms md 396) (gv ms md 397) (gv ms md 398) (gv ms md 399) (rg 5) (rg 6) (rg 7) rg = rg := by
      rw [gv_n (by omega), gv_n (by omega), gv_n (by omega), gv_n (by omega), gv_n (by omega), r0, r1, r2, r3, r4]
      exact rf_all rg
    exact sm_tell (gv_code hc1) (by rw [gv_n (by omega), s403]) (by rw [gv_n (by omega), s406]) hmem rfl (by omega) hmd e13 htr hrg
  rcases hmd with h0 | h0
  · rw [if_pos h0]
    refine bb_162 hS hc1 ?_
    rw [s8]
    have hn1 := hne h0
    rw [if_neg (show ¬ (c + 65536 - 1) % 65536 = 0 by omega)]
    refine bb_170 hS hc1 ?_
    refine RN.mono (k := 0 + 62) (c := 0 + 962) (by omega) (by omega) (K _ _ 0 0)
  · rw [if_neg (show ¬ md = 0 by omega)]
    exact RN.mono (k := 0 + 62) (c := 0 + 962) (by omega) (by omega) (K _ _ 0 0)
end GIV
