section EMB
variable {S Sg bo' pc ba bo ti k c : Nat} {x0 x1 x2 x3 x4 w n : Nat} {X rg mm dk : Nat → Nat} {cs : mc_K}
/-- LPSW -/
theorem bl_192 (hS : 474 ≤ S ∧ S ≤ bo') (hS2 : S ≤ 65535) (hSg : Sg + 410 = S) (h : nxM Sg X pc ba bo ti mm rg) (hb : ba < 65536) (hbo : bo < 65536) (hg : mc_gd Sg ba bo (pc + 1)) (hn : mm (ba + pc + 1) = n) (hn2 : n < 65536) : RN S (fun R => sm Sg R (if ¬ mc_gd Sg ba bo n then mc_trap 2 n pc 0 ba bo ti false rg mm dk cs else if ¬ mc_gd Sg ba bo (n + 3) then mc_trap 2 (mc_rc Sg ba bo) pc 0 ba bo ti false rg mm dk cs else mc_tk (ba + n) ti false rg mm dk cs)) (k + 83) (c + 983) (0, 192, 0, bo', 0, false, false, rf x0 x1 x2 x3 x4 (rg 5) (rg 6) (rg 7) rg, X, dk, cs) := by
  have hz : (n + 0) % 65536 = n := by omega
  refine bb_192 hS h.1 ?_
  refine bl_328 (x2 := 0) (x4 := 3) hS hS2 hSg h hb hbo hg hn hn2 (by omega) (by omega) ?_ ?_ ?_
  · intro ga a b
    rw [hz] at ga ⊢
    rw [if_pos ga]
    exact bl_50 hS hS2 hSg (nx_mu (nx_mu h (Or.inr (Or.inl rfl))) (Or.inl rfl)) (mu_s _ _ _) (by rw [mu_n _ _ (by decide), mu_s])
  · intro ga gb a b
    rw [hz] at ga gb
    rw [if_neg (fun q => q ga), if_pos gb]
    exact bl_50 hS hS2 hSg (nx_mu (nx_mu h (Or.inr (Or.inl rfl))) (Or.inl rfl)) (mu_s _ _ _) (by rw [mu_n _ _ (by decide), mu_s])
  · intro ga gb a b e
    rw [hz] at ga gb ⊢
    rw [if_neg (fun q => q ga), if_neg (fun q => q gb)]
    have gb2 := gb.2
    refine bb_198 hS h.1 ?_
    obtain ⟨h1, h2, h3, h4, h5, h6, h7, h8, h9, h10, h11, h12⟩ := h
    refine bl_74 (Sg := Sg) (p := 410 + (ba + n)) hS hS2 h1 h8 h7 hSg (by omega) ?_
    exact sm_tell h1 h7 h8 h11 rfl (by omega) (Or.inl rfl) (fun _ => h6) rfl (by rw [h12 0 (by decide), h12 1 (by decide), h12 2 (by decide), h12 3 (by decide), h12 4 (by decide)]; exact rf_all rg)
theorem nx_sp {q v0 v1 v2 v3 : Nat} (h : nxM Sg X pc ba bo ti mm rg) : nxM Sg (mu (mu (mu (mu X (410 + q) v0) (410 + q + 1) v1) (410 + q + 2) v2) (410 + q + 3) v3) pc ba bo ti (mu (mu (mu (mu mm q v0) (q + 1) v1) (q + 2) v2) (q + 3) v3) rg := by
  obtain ⟨h1, h2, h3, h4, h5, h6, h7, h8, h9, h10, h11, h12⟩ := h
  have e : ∀ j, j < 410 → mu (mu (mu (mu X (410 + q) v0) (410 + q + 1) v1) (410 + q + 2) v2) (410 + q + 3) v3 j = X j := fun j hj => by
    rw [mu_n _ _ (by omega), mu_n _ _ (by omega), mu_n _ _ (by omega), mu_n _ _ (by omega)]
  refine ⟨mcode_mu (mcode_mu (mcode_mu (mcode_mu h1 (by omega)) (by omega)) (by omega)) (by omega), ?_, ?_, ?_, ?_, ?_, ?_, ?_, ?_, ?_, ?_, ?_⟩
  · rw [e _ (by omega), h2]
  · rw [e _ (by omega), h3]
  · rw [e _ (by omega), h4]
  · rw [e _ (by omega), h5]
  · rw [e _ (by omega), h6]
  · rw [e _ (by omega), h7]
  · rw [e _ (by omega), h8]
  · rw [e _ (by omega), h9]
  · rw [e _ (by omega), h10]
  · intro i hi
    simp only [mu]
    rw [icn (show 410 + i = 410 + q + 3 ↔ i = q + 3 by omega), icn (show 410 + i = 410 + q + 2 ↔ i = q + 2 by omega), icn (show 410 + i = 410 + q + 1 ↔ i = q + 1 by omega), icn (show 410 + i = 410 + q ↔ i = q by omega), h11 i hi]
  · intro j hj
    rw [e _ (by omega)]
    exact h12 j hj
/-- SPSW -/
theorem bl_202 (hS : 474 ≤ S ∧ S ≤ bo') (hS2 : S ≤ 65535) (hSg : Sg + 410 = S) (h : nxM Sg X pc ba bo ti mm rg) (hb : ba < 65536) (hbo : bo < 65536) (hp : pc + 2 < 65536) (hg : mc_gd Sg ba bo (pc + 1)) (hn : mm (ba + pc + 1) = n) (hn2 : n < 65536) : RN S (fun R => sm Sg R (if ¬ mc_gd Sg ba bo n then mc_trap 2 n pc 0 ba bo ti false rg mm dk cs else if ¬ mc_gd Sg ba bo (n + 3) then mc_trap 2 (mc_rc Sg ba bo) pc 0 ba bo ti false rg mm dk cs else (0, pc + 2, ba, bo, ti, false, false, rg, mu (mu (mu (mu mm (ba + n) 0) (ba + n + 1) (pc + 2)) (ba + n + 2) ba) (ba + n + 3) bo, dk, cs))) (k + 83) (c + 983) (0, 202, 0, bo', 0, false, false, rf x0 x1 x2 x3 x4 (rg 5) (rg 6) (rg 7) rg, X, dk, cs) := by
  have hz : (n + 0) % 65536 = n := by omega
  refine bb_202 hS h.1 ?_
  refine bl_328 (x2 := 0) (x4 := 3) hS hS2 hSg h hb hbo hg hn hn2 (by omega) (by omega) ?_ ?_ ?_
  · intro ga a b
    rw [hz] at ga ⊢
    rw [if_pos ga]
    exact bl_50 hS hS2 hSg (nx_mu (nx_mu h (Or.inr (Or.inl rfl))) (Or.inl rfl)) (mu_s _ _ _) (by rw [mu_n _ _ (by decide), mu_s])
  · intro ga gb a b
    rw [hz] at ga gb
    rw [if_neg (fun q => q ga), if_pos gb]
    exact bl_50 hS hS2 hSg (nx_mu (nx_mu h (Or.inr (Or.inl rfl))) (Or.inl rfl)) (mu_s _ _ _) (by rw [mu_n _ _ (by decide), mu_s])
  · intro ga gb a b e
    rw [hz] at ga gb ⊢
    rw [if_neg (fun q => q ga), if_neg (fun q => q gb)]
    have gb2 := gb.2
    refine bb_208 hS h.1 (a210 := 410 + (ba + n)) (by omega) (by omega) (by omega) (a218 := 410 + (ba + n) + 1) (by omega) (by omega) (by omega) (a222 := 410 + (ba + n) + 2) (by omega) (by omega) (by omega) (a226 := 410 + (ba + n) + 3) (by omega) (by omega) (by omega) ?_
    have hx := nx_sp (q := ba + n) (v0 := 0) (v1 := pc + 2) (v2 := ba) (v3 := bo) h
    obtain ⟨h1, h2, h3, h4, h5, h6, h7, h8, h9, h10, h11, h12⟩ := h
    rw [h2, h4, h5, Nat.mod_eq_of_lt hp]
    exact RN.mono (k := 0 + 11) (c := 0 + 210) (by omega) (by omega) (bl_next hS hx hp)
end EMB
