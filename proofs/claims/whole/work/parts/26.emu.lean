/-! WHAT THE MONITOR DOES IN ITS GUEST'S SUPERVISOR'S STEAD -/
section EMU
def nxM (Sg : Nat) (X : Nat → Nat) (pc ba bo ti : Nat) (mm rg : Nat → Nat) : Prop := mcode X ∧ X 1 = pc ∧ X 10 = 0 ∧ X 11 = ba ∧ X 12 = bo ∧ X 13 = ti ∧ X 403 = Sg ∧ X 406 = 1 ∧ X 408 = (410 + ba) % 65536 ∧ X 409 = rb Sg ba bo ∧ (∀ i, i < Sg → X (410 + i) = mm i) ∧ ∀ j, j < 5 → X (395 + j) = rg j
variable {S Sg bo' pc ba bo ti k c : Nat} {x0 x1 x2 x3 x4 w : Nat} {X rg mm dk : Nat → Nat} {cs : mc_K}
theorem rf_tail {a0 a1 a2 a3 a4 a5 a6 a7 : Nat} {g g' : Nat → Nat} (h : ∀ j, 8 ≤ j → g j = g' j) : rf a0 a1 a2 a3 a4 a5 a6 a7 g = rf a0 a1 a2 a3 a4 a5 a6 a7 g' := by
  funext j
  match j with
  | 0 => rfl
  | 1 => rfl
  | 2 => rfl
  | 3 => rfl
  | 4 => rfl
  | 5 => rfl
  | 6 => rfl
  | 7 => rfl
  | j + 8 => exact h (j + 8) (by omega)
/-- 'next': the guest goes on behind its instruction -/
theorem bl_next (hS : 474 ≤ S ∧ S ≤ bo') (h : nxM Sg X pc ba bo ti mm rg) (hp : pc + 2 < 65536) : RN S (fun R => sm Sg R (0, pc + 2, ba, bo, ti, false, false, rg, mm, dk, cs)) (k + 11) (c + 210) (0, 276, 0, bo', 0, false, false, rf x0 x1 x2 x3 x4 (rg 5) (rg 6) (rg 7) rg, X, dk, cs) := by
  obtain ⟨h1, h2, h3, h4, h5, h6, h7, h8, h9, h10, h11, h12⟩ := h
  refine bb_276 hS h1 ?_
  rw [h2, Nat.mod_eq_of_lt hp]
  refine bb_122 hS (mcode_mu h1 (by omega)) ?_
  refine RN.done ?_
  have e : ∀ j, j ≠ 407 → mu X 407 (pc + 2) j = X j := fun j hj => mu_n _ _ hj
  rw [e 406 (by decide), e 408 (by decide), e 409 (by decide), e 395 (by decide), e 396 (by decide), e 397 (by decide), e 398 (by decide), e 399 (by decide), mu_s, h8, h9, h10, h12 0 (by decide), h12 1 (by decide), h12 2 (by decide), h12 3 (by decide), h12 4 (by decide), rf_all]
  refine ⟨rfl, rfl, rfl, rfl, rfl, rfl, rfl, rfl, rfl, rfl, rfl, ?_, ?_, mcode_mu h1 (by omega), ?_, ?_, ?_, ?_, ?_, ?_, ?_⟩
  · rw [e 408 (by decide), h9]
  · rw [e 409 (by decide), h10]
  · rw [e 10 (by decide), h3]
  · rw [e 11 (by decide), h4]
  · rw [e 12 (by decide), h5]
  · intro _; rw [e 13 (by decide), h6]
  · rw [e 403 (by decide), h7]
  · rw [e 406 (by decide), h8]
  · intro i hi
    rw [e (410 + i) (by omega)]
    exact h11 i hi
def sw (m : Nat → Nat) (r5 r6 r7 : Nat) : Nat → Nat := mu (mu (mu m 400 r5) 401 r6) 402 r7
theorem sw_n {m : Nat → Nat} {r5 r6 r7 j : Nat} (h : j < 400 ∨ 402 < j) : sw m r5 r6 r7 j = m j := by
  unfold sw
  rw [mu_n _ _ (by omega), mu_n _ _ (by omega), mu_n _ _ (by omega)]
theorem sw_code {m : Nat → Nat} {r5 r6 r7 : Nat} (h : mcode m) : mcode (sw m r5 r6 r7) := mcode_mu (mcode_mu (mcode_mu h (by omega)) (by omega)) (by omega)
theorem sw_reg (h : nxM Sg X pc ba bo ti mm rg) : ∀ j, j < 8 → sw X (rg 5) (rg 6) (rg 7) (395 + j) = rg j := by
  intro j hj
  obtain ⟨h1, h2, h3, h4, h5, h6, h7, h8, h9, h10, h11, h12⟩ := h
  by_cases h5' : j < 5
  · rw [sw_n (by omega)]
    exact h12 j h5'
  · have e : j = 5 ∨ j = 6 ∨ j = 7 := by omega
    rcases e with rfl | rfl | rfl <;> simp [sw, mu]
theorem sw_nx (h : nxM Sg X pc ba bo ti mm rg) : nxM Sg (sw X (rg 5) (rg 6) (rg 7)) pc ba bo ti mm rg := by
  have hr := sw_reg h
  obtain ⟨h1, h2, h3, h4, h5, h6, h7, h8, h9, h10, h11, h12⟩ := h
  refine ⟨sw_code h1, ?_, ?_, ?_, ?_, ?_, ?_, ?_, ?_, ?_, ?_, fun j hj => hr j (by omega)⟩
  · rw [sw_n (by omega), h2]
  · rw [sw_n (by omega), h3]
  · rw [sw_n (by omega), h4]
  · rw [sw_n (by omega), h5]
  · rw [sw_n (by omega), h6]
  · rw [sw_n (by omega), h7]
  · rw [sw_n (by omega), h8]
  · rw [sw_n (by omega), h9]
  · rw [sw_n (by omega), h10]
  · intro i hi
    rw [sw_n (by omega)]
    exact h11 i hi
theorem sh19 (w : Nat) : mc_sh w 19 &&& 7 = w / 8 % 8 := by
  have e : mc_sh w 19 = w / 8 := by simp [mc_sh]
  rw [e]
  exact Nat.and_two_pow_sub_one_eq_mod (w / 8) 3
/-- 'rega': which register a is -/
theorem bl_286 {Q : mc_S → Prop} {ti' : Nat} {ro : Bool} (hS : 474 ≤ S ∧ S ≤ bo') (h : nxM Sg X pc ba bo ti mm rg) (h9 : X 9 = w) (kk : RN S Q k c (0, x3, 0, bo', ti', ro, false, rf x0 (w / 8 % 8) 7 x3 x4 (rg 5) (rg 6) (rg 7) rg, sw X (rg 5) (rg 6) (rg 7), dk, cs)) : RN S Q (k + 8) (c + 8) (0, 286, 0, bo', ti', ro, false, rf x0 x1 x2 x3 x4 (rg 5) (rg 6) (rg 7) rg, X, dk, cs) := by
  refine bb_286 hS h.1 ?_
  rw [h9, sh19]
  exact kk
/-- SETT -/
theorem bl_230 (hS : 474 ≤ S ∧ S ≤ bo') (h : nxM Sg X pc ba bo ti mm rg) (h9 : X 9 = w) (hp : pc + 2 < 65536) : RN S (fun R => sm Sg R (0, pc + 2, ba, bo, rg (w / 8 % 8), false, false, rg, mm, dk, cs)) (k + 23) (c + 222) (0, 230, 0, bo', 0, false, false, rf x0 x1 x2 x3 x4 (rg 5) (rg 6) (rg 7) rg, X, dk, cs) := by
  have ha : w / 8 % 8 < 8 := Nat.mod_lt _ (by decide)
  refine bb_230 hS h.1 ?_
  refine bl_286 hS h h9 ?_
  have hr := sw_reg h (w / 8 % 8) ha
  have hn := sw_nx h
  refine bb_232 hS hn.1 (a232 := 395 + w / 8 % 8) (by omega) (by omega) ?_
  rw [hr]
  obtain ⟨h1, h2, h3, h4, h5, h6, h7, h8, h9', h10, h11, h12⟩ := hn
  refine bl_next hS ⟨mcode_mu h1 (by omega), ?_, ?_, ?_, ?_, mu_s _ _ _, ?_, ?_, ?_, ?_, ?_, ?_⟩ hp
  · rw [mu_n _ _ (by decide), h2]
  · rw [mu_n _ _ (by decide), h3]
  · rw [mu_n _ _ (by decide), h4]
  · rw [mu_n _ _ (by decide), h5]
  · rw [mu_n _ _ (by decide), h7]
  · rw [mu_n _ _ (by decide), h8]
  · rw [mu_n _ _ (by decide), h9']
  · rw [mu_n _ _ (by decide), h10]
  · intro i hi; rw [mu_n _ _ (by omega)]; exact h11 i hi
  · intro j hj; rw [mu_n _ _ (by omega)]; exact h12 j hj
/-- OUT -/
theorem bl_258 (hS : 474 ≤ S ∧ S ≤ bo') (h : nxM Sg X pc ba bo ti mm rg) (h9 : X 9 = w) (hp : pc + 2 < 65536) : RN S (fun R => sm Sg R (0, pc + 2, ba, bo, ti, false, false, rg, mm, dk, mc_out cs (rg (w / 8 % 8) % 256))) (k + 23) (c + 421) (0, 258, 0, bo', 0, false, false, rf x0 x1 x2 x3 x4 (rg 5) (rg 6) (rg 7) rg, X, dk, cs) := by
  have ha : w / 8 % 8 < 8 := Nat.mod_lt _ (by decide)
  refine bb_258 hS h.1 ?_
  refine bl_286 hS h h9 ?_
  have hr := sw_reg h (w / 8 % 8) ha
  have hn := sw_nx h
  refine bb_260 hS hn.1 (a260 := 395 + w / 8 % 8) (by omega) (by omega) ?_
  rw [hr]
  exact bl_next hS hn hp
/-- 'put': register a is v -/
theorem bl_248 {v : Nat} (hS : 474 ≤ S ∧ S ≤ bo') (h : nxM Sg X pc ba bo ti mm rg) (ha : w < 8) (hp : pc + 2 < 65536) : RN S (fun R => sm Sg R (0, pc + 2, ba, bo, ti, false, false, mu rg w v, mm, dk, cs)) (k + 16) (c + 215) (0, 248, 0, bo', 0, false, false, rf x0 w v x3 x4 (rg 5) (rg 6) (rg 7) rg, sw X (rg 5) (rg 6) (rg 7), dk, cs) := by
  have hr := sw_reg h
  have hn := sw_nx h
  refine bb_248 hS hn.1 (a248 := 395 + w) (by omega) (by omega) (by omega) ?_
  have hreg : ∀ j, j < 8 → mu (sw X (rg 5) (rg 6) (rg 7)) (395 + w) v (395 + j) = mu rg w v j := by
    intro j hj
    by_cases e : j = w
    · subst e; rw [mu_s, mu_s]
    · rw [mu_n _ _ (by omega), mu_n _ _ e, hr j hj]
  rw [hreg 5 (by decide), hreg 6 (by decide), hreg 7 (by decide), rf_tail (g := rg) (g' := mu rg w v) (fun j hj => (mu_n _ _ (by omega)).symm)]
  obtain ⟨h1, h2, h3, h4, h5, h6, h7, h8, h9', h10, h11, h12⟩ := hn
  refine bl_next hS ⟨mcode_mu h1 (by omega), ?_, ?_, ?_, ?_, ?_, ?_, ?_, ?_, ?_, ?_, fun j hj => hreg j (by omega)⟩ hp
  · rw [mu_n _ _ (by omega), h2]
  · rw [mu_n _ _ (by omega), h3]
  · rw [mu_n _ _ (by omega), h4]
  · rw [mu_n _ _ (by omega), h5]
  · rw [mu_n _ _ (by omega), h6]
  · rw [mu_n _ _ (by omega), h7]
  · rw [mu_n _ _ (by omega), h8]
  · rw [mu_n _ _ (by omega), h9']
  · rw [mu_n _ _ (by omega), h10]
  · intro i hi; rw [mu_n _ _ (by omega)]; exact h11 i hi
/-- GETT -/
theorem bl_238 (hS : 474 ≤ S ∧ S ≤ bo') (h : nxM Sg X pc ba bo ti mm rg) (h9 : X 9 = w) (hp : pc + 2 < 65536) : RN S (fun R => sm Sg R (0, pc + 2, ba, bo, ti, false, false, mu rg (w / 8 % 8) ti, mm, dk, cs)) (k + 27) (c + 226) (0, 238, 0, bo', 0, false, false, rf x0 x1 x2 x3 x4 (rg 5) (rg 6) (rg 7) rg, X, dk, cs) := by
  refine bb_238 hS h.1 ?_
  refine bl_286 hS h h9 ?_
  have hn := sw_nx h
  refine bb_240 hS hn.1 ?_
  rw [hn.2.2.2.2.2.1]
  exact bl_248 hS h (Nat.mod_lt _ (by decide)) hp
/-- IN -/
theorem bl_244 (hS : 474 ≤ S ∧ S ≤ bo') (h : nxM Sg X pc ba bo ti mm rg) (h9 : X 9 = w) (hp : pc + 2 < 65536) : RN S (fun R => sm Sg R (0, pc + 2, ba, bo, ti, false, false, mu rg (w / 8 % 8) (mc_in cs).1, mm, dk, (mc_in cs).2)) (k + 26) (c + 424) (0, 244, 0, bo', 0, false, false, rf x0 x1 x2 x3 x4 (rg 5) (rg 6) (rg 7) rg, X, dk, cs) := by
  refine bb_244 hS h.1 ?_
  refine bl_286 hS h h9 ?_
  have hn := sw_nx h
  refine bb_246 hS hn.1 ?_
  exact bl_248 hS h (Nat.mod_lt _ (by decide)) hp
end EMU
