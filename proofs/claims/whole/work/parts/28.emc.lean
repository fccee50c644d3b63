section EMC
variable {S Sg bo' pc ba bo ti k c : Nat} {x0 x1 x2 x3 x4 w n : Nat} {X rg mm dk : Nat → Nat} {cs : mc_K}
theorem nx_cpy {q s0 : Nat} (h : nxM Sg X pc ba bo ti mm rg) : nxM Sg (va_cpy dk X s0 (410 + q) 16) pc ba bo ti (va_cpy dk mm s0 q 16) rg := by
  obtain ⟨h1, h2, h3, h4, h5, h6, h7, h8, h9, h10, h11, h12⟩ := h
  have e : ∀ j, j < 410 → va_cpy dk X s0 (410 + q) 16 j = X j := fun j hj => by
    unfold va_cpy
    rw [if_neg (by omega)]
  refine ⟨fun j hj => by rw [e j (by omega)]; exact h1 j hj, ?_, ?_, ?_, ?_, ?_, ?_, ?_, ?_, ?_, ?_, ?_⟩
  · rw [e _ (by omega), h2]
  · rw [e _ (by omega), h3]
  · rw [e _ (by omega), h4]
  · rw [e _ (by omega), h5]
  · rw [e _ (by omega), h6]
  · rw [e _ (by omega), h7]
  · rw [e _ (by omega), h8]
  · rw [e _ (by omega), h9]
  · rw [e _ (by omega), h10]
  · intro i hi
    unfold va_cpy
    rw [icn (show 410 + q ≤ 410 + i ∧ 410 + i < 410 + q + 16 ↔ q ≤ i ∧ i < q + 16 by omega), h11 i hi, show 410 + i - (410 + q) = i - q by omega]
  · intro j hj
    rw [e _ (by omega)]
    exact h12 j hj
/-- 'block': where the words are and which block it is -/
theorem bl_302 {Q : mc_S → Prop} {a b ad : Nat} (hS : 474 ≤ S ∧ S ≤ bo') (hS2 : S ≤ 65535) (hSg : Sg + 410 = S) (h : nxM Sg X pc ba bo ti mm rg) (h9 : X 9 = w) (ha : w / 8 % 8 = a) (hbb : w % 8 = b) (hb : ba < 65536) (hbo : bo < 65536) (hg : mc_gd Sg ba bo (pc + 1)) (hn : mm (ba + pc + 1) = n) (hn2 : n < 65536) (hr : ∀ j, rg j < 65536) (had : (n + rg b) % 65536 = ad)
    (k1 : ¬ mc_gd Sg ba bo ad → ∀ (Y : Nat → Nat) (u v y z : Nat), nxM Sg Y pc ba bo ti mm rg → Y 8 = 2 → Y 9 = ad → RN S Q (k + 62) (c + 962) (0, 50, 0, bo', 0, false, false, rf 0 u v y z (rg 5) (rg 6) (rg 7) rg, Y, dk, cs))
    (k2 : mc_gd Sg ba bo ad → ¬ mc_gd Sg ba bo (ad + 15) → ∀ (Y : Nat → Nat) (u v y z : Nat), nxM Sg Y pc ba bo ti mm rg → Y 8 = 2 → Y 9 = mc_rc Sg ba bo → RN S Q (k + 62) (c + 962) (0, 50, 0, bo', 0, false, false, rf 0 u v y z (rg 5) (rg 6) (rg 7) rg, Y, dk, cs))
    (k3 : mc_gd Sg ba bo ad → mc_gd Sg ba bo (ad + 15) → ∀ (Y : Nat → Nat) (u v : Nat), nxM Sg Y pc ba bo ti mm rg → RN S Q (k + 59) (c + 959) (0, x3, 0, bo', 0, false, false, rf u (410 + (ba + ad)) (rg a) x3 v (rg 5) (rg 6) (rg 7) rg, Y, dk, cs)) : RN S Q (k + 98) (c + 998) (0, 302, 0, bo', 0, false, false, rf x0 x1 x2 x3 x4 (rg 5) (rg 6) (rg 7) rg, X, dk, cs) := by
  have a8 : a < 8 := by rw [← ha]; exact Nat.mod_lt _ (by decide)
  have b8 : b < 8 := by rw [← hbb]; exact Nat.mod_lt _ (by decide)
  refine bb_302 hS h.1 ?_
  have hx1 := nx_mu (a := 404) (v := x3) h (by omega)
  refine bl_286 hS hx1 (w := w) (by rw [mu_n _ _ (by decide), h9]) ?_
  rw [ha]
  have hr1 := sw_reg hx1
  have hx2 := sw_nx hx1
  have e9 : sw (mu X 404 x3) (rg 5) (rg 6) (rg 7) 9 = w := by rw [sw_n (by omega), mu_n _ _ (by decide), h9]
  have e404 : sw (mu X 404 x3) (rg 5) (rg 6) (rg 7) 404 = x3 := by rw [sw_n (by omega), mu_s]
  generalize sw (mu X 404 x3) (rg 5) (rg 6) (rg 7) = Y at hr1 hx2 e9 e404 ⊢
  have ew : w &&& 7 = b := by rw [← hbb]; exact Nat.and_two_pow_sub_one_eq_mod w 3
  refine bb_306 hS hx2.1 (a306 := 395 + a) (by omega) (by omega) (a316 := 395 + b) (by rw [e9, ew]; omega) (by omega) ?_
  rw [hr1 a a8, mu_n _ _ (show 395 + b ≠ 405 by omega), hr1 b b8]
  have hx3 := nx_mu (a := 405) (v := rg a) hx2 (by omega)
  have f405 : mu Y 405 (rg a) 405 = rg a := mu_s _ _ _
  have f404 : mu Y 405 (rg a) 404 = x3 := by rw [mu_n _ _ (by decide), e404]
  generalize mu Y 405 (rg a) = Z at hx3 f405 f404 ⊢
  refine bl_328 (x2 := rg b) (x4 := 15) (x3 := 322) hS hS2 hSg hx3 hb hbo hg hn hn2 (hr b) (by omega) ?_ ?_ ?_
  · intro ga u v
    rw [had] at ga ⊢
    exact k1 ga _ _ _ _ _ (nx_mu (nx_mu hx3 (Or.inr (Or.inl rfl))) (Or.inl rfl)) (mu_s _ _ _) (by rw [mu_n _ _ (by decide), mu_s])
  · intro ga gb u v
    rw [had] at ga gb
    exact k2 ga gb _ _ _ _ _ (nx_mu (nx_mu hx3 (Or.inr (Or.inl rfl))) (Or.inl rfl)) (mu_s _ _ _) (by rw [mu_n _ _ (by decide), mu_s])
  · intro ga gb u v y
    rw [had] at ga gb ⊢
    refine bb_322 hS hx3.1 ?_
    rw [f404, f405]
    exact k3 ga gb _ _ _ hx3
/-- GETB -/
theorem bl_266 {a b ad : Nat} (hS : 474 ≤ S ∧ S ≤ bo') (hS2 : S ≤ 65535) (hSg : Sg + 410 = S) (h : nxM Sg X pc ba bo ti mm rg) (h9 : X 9 = w) (ha : w / 8 % 8 = a) (hbb : w % 8 = b) (hb : ba < 65536) (hbo : bo < 65536) (hp : pc + 2 < 65536) (hg : mc_gd Sg ba bo (pc + 1)) (hn : mm (ba + pc + 1) = n) (hn2 : n < 65536) (hr : ∀ j, rg j < 65536) (had : (n + rg b) % 65536 = ad) : RN S (fun R => sm Sg R (if ¬ mc_gd Sg ba bo ad then mc_trap 2 ad pc 0 ba bo ti false rg mm dk cs else if ¬ mc_gd Sg ba bo (ad + 15) then mc_trap 2 (mc_rc Sg ba bo) pc 0 ba bo ti false rg mm dk cs else (0, pc + 2, ba, bo, ti, false, false, rg, va_cpy dk mm (rg a % 8 * 16) (ba + ad) 16, dk, cs))) (k + 99) (c + 999) (0, 266, 0, bo', 0, false, false, rf x0 x1 x2 x3 x4 (rg 5) (rg 6) (rg 7) rg, X, dk, cs) := by
  refine bb_266 hS h.1 ?_
  refine bl_302 hS hS2 hSg h h9 ha hbb hb hbo hg hn hn2 hr had ?_ ?_ ?_
  · intro ga Y u v y z hY h8 h9
    rw [if_pos ga]
    exact bl_50 hS hS2 hSg hY h8 h9
  · intro ga gb Y u v y z hY h8 h9
    rw [if_neg (fun q => q ga), if_pos gb]
    exact bl_50 hS hS2 hSg hY h8 h9
  · intro ga gb Y u v hY
    rw [if_neg (fun q => q ga), if_neg (fun q => q gb)]
    have gb2 := gb.2
    refine bb_268 hS hY.1 (a268 := 410 + (ba + ad)) (by omega) (by omega) (by omega) ?_
    have hx := nx_cpy (q := ba + ad) (s0 := rg a % 8 * 16) (dk := dk) hY
    refine mo_alu hS hx.1 (by decide) mw_270 mw_271 (by decide) (nx := 276) (rg1 := rf u (410 + (ba + ad)) (rg a) 268 v (rg 5) (rg 6) (rg 7) rg) rfl rfl ?_
    exact RN.mono (k := 0 + 11) (c := 0 + 210) (by omega) (by omega) (bl_next hS hx hp)
/-- PUTB -/
theorem bl_272 {a b ad : Nat} (hS : 474 ≤ S ∧ S ≤ bo') (hS2 : S ≤ 65535) (hSg : Sg + 410 = S) (h : nxM Sg X pc ba bo ti mm rg) (h9 : X 9 = w) (ha : w / 8 % 8 = a) (hbb : w % 8 = b) (hb : ba < 65536) (hbo : bo < 65536) (hp : pc + 2 < 65536) (hg : mc_gd Sg ba bo (pc + 1)) (hn : mm (ba + pc + 1) = n) (hn2 : n < 65536) (hr : ∀ j, rg j < 65536) (had : (n + rg b) % 65536 = ad) : RN S (fun R => sm Sg R (if ¬ mc_gd Sg ba bo ad then mc_trap 2 ad pc 0 ba bo ti false rg mm dk cs else if ¬ mc_gd Sg ba bo (ad + 15) then mc_trap 2 (mc_rc Sg ba bo) pc 0 ba bo ti false rg mm dk cs else (0, pc + 2, ba, bo, ti, false, false, rg, mm, va_cpy mm dk (ba + ad) (rg a % 8 * 16) 16, cs))) (k + 99) (c + 999) (0, 272, 0, bo', 0, false, false, rf x0 x1 x2 x3 x4 (rg 5) (rg 6) (rg 7) rg, X, dk, cs) := by
  refine bb_272 hS h.1 ?_
  refine bl_302 hS hS2 hSg h h9 ha hbb hb hbo hg hn hn2 hr had ?_ ?_ ?_
  · intro ga Y u v y z hY h8 h9
    rw [if_pos ga]
    exact bl_50 hS hS2 hSg hY h8 h9
  · intro ga gb Y u v y z hY h8 h9
    rw [if_neg (fun q => q ga), if_pos gb]
    exact bl_50 hS hS2 hSg hY h8 h9
  · intro ga gb Y u v hY
    rw [if_neg (fun q => q ga), if_neg (fun q => q gb)]
    have gb2 := gb.2
    refine bb_274 hS hY.1 (a274 := 410 + (ba + ad)) (by omega) (by omega) (by omega) ?_
    have e : va_cpy Y dk (410 + (ba + ad)) (rg a % 8 * 16) 16 = va_cpy mm dk (ba + ad) (rg a % 8 * 16) 16 := by
      funext j
      unfold va_cpy
      by_cases hj : rg a % 8 * 16 ≤ j ∧ j < rg a % 8 * 16 + 16
      · rw [if_pos hj, if_pos hj, show 410 + (ba + ad) + (j - rg a % 8 * 16) = 410 + (ba + ad + (j - rg a % 8 * 16)) by omega]
        exact hY.2.2.2.2.2.2.2.2.2.2.1 _ (by omega)
      · rw [if_neg hj, if_neg hj]
    rw [e]
    exact RN.mono (k := 0 + 11) (c := 0 + 210) (by omega) (by omega) (bl_next hS hY hp)
end EMC
