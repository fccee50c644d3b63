section WRD
variable {S Sg bo' pc ba bo ti k c : Nat} {x0 x1 x2 x3 x4 w n : Nat} {X rg mm dk : Nat → Nat} {cs : mc_K}
theorem nx_mu {a v : Nat} (h : nxM Sg X pc ba bo ti mm rg) (ha : a = 8 ∨ a = 9 ∨ a = 404 ∨ a = 405) : nxM Sg (mu X a v) pc ba bo ti mm rg := by
  obtain ⟨h1, h2, h3, h4, h5, h6, h7, h8, h9, h10, h11, h12⟩ := h
  have e : ∀ j, j ≠ a → mu X a v j = X j := fun j hj => mu_n _ _ hj
  refine ⟨mcode_mu h1 (by omega), ?_, ?_, ?_, ?_, ?_, ?_, ?_, ?_, ?_, ?_, ?_⟩
  · rw [e _ (by omega), h2]
  · rw [e _ (by omega), h3]
  · rw [e _ (by omega), h4]
  · rw [e _ (by omega), h5]
  · rw [e _ (by omega), h6]
  · rw [e _ (by omega), h7]
  · rw [e _ (by omega), h8]
  · rw [e _ (by omega), h9]
  · rw [e _ (by omega), h10]
  · intro i hi; rw [e _ (by omega)]; exact h11 i hi
  · intro j hj; rw [e _ (by omega)]; exact h12 j hj
/-- a trap of the guest's supervisor, from 'give' on -/
theorem bl_50 {c' i : Nat} (hS : 474 ≤ S ∧ S ≤ bo') (hS2 : S ≤ 65535) (hSg : Sg + 410 = S) (h : nxM Sg X pc ba bo ti mm rg) (h8 : X 8 = c') (h9 : X 9 = i) : RN S (fun R => sm Sg R (mc_trap c' i pc 0 ba bo ti false rg mm dk cs)) (k + 62) (c + 962) (0, 50, 0, bo', 0, false, false, rf 0 x1 x2 x3 x4 (rg 5) (rg 6) (rg 7) rg, X, dk, cs) := by
  obtain ⟨h1, h2, h3, h4, h5, h6, h7, h8', h9', h10, h11, h12⟩ := h
  refine bb_50 hS h1 ?_
  have hgv : mu (mu (mu (mu (mu (mu X 410 0) 411 (X 1)) 412 (X 11)) 413 (X 12)) 418 (X 8)) 419 (X 9) = gv X 0 := rfl
  rw [hgv]
  refine bl_74 (Sg := Sg) (p := 414) hS hS2 (gv_code h1) (by rw [gv_n (by omega), h8']) (by rw [gv_n (by omega), h7]) hSg (by omega) ?_
  have hmem : ∀ j, j < Sg → gv X 0 (410 + j) = mc_tm mm c' i pc 0 ba bo j := by
    intro j hj
    unfold gv mc_tm
    rw [h2, h8, h9, h4, h5]
    simp only [mu]
    rw [icn (show 410 + j = 419 ↔ j = 9 by omega), icn (show 410 + j = 418 ↔ j = 8 by omega), icn (show 410 + j = 413 ↔ j = 3 by omega), icn (show 410 + j = 412 ↔ j = 2 by omega), icn (show 410 + j = 411 ↔ j = 1 by omega), icn (show 410 + j = 410 ↔ j = 0 by omega), h11 j hj]
  have hrg : rf (gv X 0 395) (gv X 0 396) (gv X 0 397) (gv X 0 398) (gv X 0 399) (rg 5) (rg 6) (rg 7) rg = rg := by
    rw [gv_n (by omega), gv_n (by omega), gv_n (by omega), gv_n (by omega), gv_n (by omega), h12 0 (by decide), h12 1 (by decide), h12 2 (by decide), h12 3 (by decide), h12 4 (by decide)]
    exact rf_all rg
  exact sm_tell (gv_code h1) (by rw [gv_n (by omega), h7]) (by rw [gv_n (by omega), h8']) hmem rfl (by omega) (Or.inl rfl) (fun _ => by rw [gv_n (by omega), h6]) rfl hrg
theorem rb_gd {n : Nat} : n < rb Sg ba bo ↔ mc_gd Sg ba bo n := by
  unfold rb mc_gd
  split
  · split <;> omega
  · omega
theorem rb_rc : rb Sg ba bo = mc_rc Sg ba bo := by
  unfold rb mc_rc
  split
  · split <;> split <;> omega
  · split <;> omega
/-- 'words': are the words from N + x2 on good, x4 more than one? -/
theorem bl_328 {Q : mc_S → Prop} (hS : 474 ≤ S ∧ S ≤ bo') (hS2 : S ≤ 65535) (hSg : Sg + 410 = S) (h : nxM Sg X pc ba bo ti mm rg) (hb : ba < 65536) (hbo : bo < 65536) (hg : mc_gd Sg ba bo (pc + 1)) (hn : mm (ba + pc + 1) = n) (hn2 : n < 65536) (hx2 : x2 < 65536) (hx4 : x4 ≤ 15)
    (k1 : ¬ mc_gd Sg ba bo ((n + x2) % 65536) → ∀ (a b : Nat), RN S Q (k + 62) (c + 962) (0, 50, 0, bo', 0, false, false, rf 0 2 a x3 b (rg 5) (rg 6) (rg 7) rg, mu (mu X 9 ((n + x2) % 65536)) 8 2, dk, cs))
    (k2 : mc_gd Sg ba bo ((n + x2) % 65536) → ¬ mc_gd Sg ba bo ((n + x2) % 65536 + x4) → ∀ (a b : Nat), RN S Q (k + 62) (c + 962) (0, 50, 0, bo', 0, false, false, rf 0 2 a x3 b (rg 5) (rg 6) (rg 7) rg, mu (mu X 9 (mc_rc Sg ba bo)) 8 2, dk, cs))
    (k3 : mc_gd Sg ba bo ((n + x2) % 65536) → mc_gd Sg ba bo ((n + x2) % 65536 + x4) → ∀ (a b e : Nat), RN S Q (k + 62) (c + 962) (0, x3, 0, bo', 0, false, false, rf a (410 + (ba + (n + x2) % 65536)) b x3 e (rg 5) (rg 6) (rg 7) rg, X, dk, cs)) : RN S Q (k + 80) (c + 980) (0, 328, 0, bo', 0, false, false, rf x0 x1 x2 x3 x4 (rg 5) (rg 6) (rg 7) rg, X, dk, cs) := by
  obtain ⟨h1, h2, h3, h4, h5, h6, h7, h8, h9, h10, h11, h12⟩ := h
  have g1 := hg.2
  have e408 : X 408 = 410 + ba := by rw [h9]; omega
  refine bb_328 hS h1 (a334 := 410 + (ba + pc + 1)) (by rw [e408, h2]; omega) (by omega) ?_
  rw [h11 (ba + pc + 1) (by omega), hn, h10]
  generalize hA : (n + x2) % 65536 = ad at k1 k2 k3 ⊢
  have had : ad < 65536 := by omega
  by_cases ga : mc_gd Sg ba bo ad
  · have ga1 := ga.1
    have ga2 := ga.2
    rw [if_pos (rb_gd.mpr ga), if_neg (show ¬ (1 : Nat) = 0 by decide)]
    refine bb_346 hS h1 ?_
    rw [show (x4 + ad) % 65536 = ad + x4 by omega]
    by_cases gb : mc_gd Sg ba bo (ad + x4)
    · rw [if_pos (rb_gd.mpr gb), if_neg (show ¬ (1 : Nat) = 0 by decide)]
      refine bb_352 hS h1 ?_
      rw [e408, show (ad + (410 + ba)) % 65536 = 410 + (ba + ad) by omega]
      exact RN.mono (by omega) (by omega) (k3 ga gb _ _ _)
    · rw [if_neg (fun q => gb (rb_gd.mp q)), if_pos rfl]
      refine bb_358 hS h1 ?_
      refine bb_360 hS h1 ?_
      rw [rb_rc]
      exact RN.mono (by omega) (by omega) (k2 ga gb _ _)
  · rw [if_neg (fun q => ga (rb_gd.mp q)), if_pos rfl]
    refine bb_360 hS h1 ?_
    exact RN.mono (by omega) (by omega) (k1 ga _ _)
end WRD
