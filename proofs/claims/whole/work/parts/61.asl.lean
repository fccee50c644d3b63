/-! FEED: class and Model -/
section ASL
variable {T : Nat → Nat} {z : Nat → Int32}
def byt (w : Int32) (k : Nat) : Nat := w.toBitVec.toNat / 2 ^ k % 256
theorem byt_lt (w : Int32) (k : Nat) : byt w k < 256 := Nat.mod_lt _ (by decide)
theorem byt_c (w : Int32) : ((w.toUInt32 >>> ((24 : Int32).toUInt32 &&& Int32.toUInt32 31)).toInt32 &&& 255 = nI (byt w 24)) ∧ ((w.toUInt32 >>> ((16 : Int32).toUInt32 &&& Int32.toUInt32 31)).toInt32 &&& 255 = nI (byt w 16)) ∧ ((w.toUInt32 >>> ((8 : Int32).toUInt32 &&& Int32.toUInt32 31)).toInt32 &&& 255 = nI (byt w 8)) ∧ ((w.toUInt32 >>> ((0 : Int32).toUInt32 &&& Int32.toUInt32 31)).toInt32 &&& 255 = nI (byt w 0)) := by
  refine ⟨?_, ?_, ?_, ?_⟩
  · rw [pk_and _ 8 (by decide), pk_ushr w 24 24 (by decide)]; rfl
  · rw [pk_and _ 8 (by decide), pk_ushr w 16 16 (by decide)]; rfl
  · rw [pk_and _ 8 (by decide), pk_ushr w 8 8 (by decide)]; rfl
  · rw [pk_and _ 8 (by decide), pk_ushr w 0 0 (by decide)]; rfl
theorem byt_m1 (w s : Int32) (k : Nat) (hk : k = 0 ∨ k = 8 ∨ k = 16 ∨ k = 24) (hs : (s.toBitVec.smod 32).toNat = k) : vp_nar .byte ((w >>> s).toInt8.toInt32) = sxb (byt w k) := by
  rw [pk_vb]
  unfold sxb
  congr 1
  apply Int8.toInt_inj.mp
  rw [Int32.toInt_toInt8, Int32.toInt_toInt8, pk_shr w s k hs, nI_toInt (by have := byt_lt w k; omega)]
  have e1 : w.toInt = if 2 * w.toBitVec.toNat < 2 ^ 32 then (w.toBitVec.toNat : Int) else (w.toBitVec.toNat : Int) - (2 ^ 32 : Nat) := BitVec.toInt_eq_toNat_cond _
  have hlt : w.toBitVec.toNat < 2 ^ 32 := w.toBitVec.isLt
  rw [← Int.emod_bmod (n := 2 ^ 8), ← Int.emod_bmod (x := ((byt w k : Nat) : Int)) (n := 2 ^ 8)]
  congr 1
  rw [Int.shiftRight_eq_div_pow, e1]
  unfold byt
  generalize w.toBitVec.toNat = n at *
  rcases hk with rfl | rfl | rfl | rfl
  all_goals (split <;> omega)
theorem byt_m (w : Int32) : (vp_nar .byte ((w >>> ((24 : Int32) &&& 31)).toInt8.toInt32) = sxb (byt w 24)) ∧ (vp_nar .byte ((w >>> ((16 : Int32) &&& 31)).toInt8.toInt32) = sxb (byt w 16)) ∧ (vp_nar .byte ((w >>> ((8 : Int32) &&& 31)).toInt8.toInt32) = sxb (byt w 8)) ∧ (vp_nar .byte ((w >>> ((0 : Int32) &&& 31)).toInt8.toInt32) = sxb (byt w 0)) := ⟨byt_m1 w _ 24 (by omega) (by decide), byt_m1 w _ 16 (by omega) (by decide), byt_m1 w _ 8 (by omega) (by decide), byt_m1 w _ 0 (by omega) (by decide)⟩
def put4 (T : Nat → Nat) (tl : Nat) (w : Int32) : Nat → Nat := mu (mu (mu (mu T tl (byt w 24)) (tl + 1) (byt w 16)) (tl + 2) (byt w 8)) (tl + 3) (byt w 0)
theorem mu_256 {f : Nat → Nat} {k x : Nat} (h : ∀ i, f i < 256) (hx : x < 256) : ∀ i, mu f k x i < 256 := by
  intro i
  unfold mu
  split
  · exact hx
  · exact h i
theorem put4_lt {tl : Nat} {w : Int32} (hT : ∀ i, T i < 256) : ∀ i, put4 T tl w i < 256 := mu_256 (mu_256 (mu_256 (mu_256 hT (byt_lt _ _)) (byt_lt _ _)) (byt_lt _ _)) (byt_lt _ _)
theorem q_put4 {tl : Nat} {w : Int32} (htl : tl + 4 ≤ 3000) : f_GT_putOnTape (nI tl) (nf T) w = some (nI (tl + 4), nf (put4 T tl w)) := by
  obtain ⟨b1, b2, b3, b4⟩ := byt_c w
  unfold f_GT_putOnTape
  obtain ⟨u, hu⟩ : ∃ u, 65536 = u + 5 := ⟨65531, rfl⟩
  rw [hu]
  rw [b_GT_putOnTape_3, if_neg (show ¬ (24 : Int32) < 0 by decide), if_pos ((ck_nI (by omega)).mpr (by omega)), nI_clamp (by omega), b1, upd_nf, nI_1, show (24 : Int32) + -8 = 16 by decide]
  rw [b_GT_putOnTape_3, if_neg (show ¬ (16 : Int32) < 0 by decide), if_pos ((ck_nI (by omega)).mpr (by omega)), nI_clamp (by omega), b2, upd_nf, nI_1, show (16 : Int32) + -8 = 8 by decide]
  rw [b_GT_putOnTape_3, if_neg (show ¬ (8 : Int32) < 0 by decide), if_pos ((ck_nI (by omega)).mpr (by omega)), nI_clamp (by omega), b3, upd_nf, nI_1, show (8 : Int32) + -8 = 0 by decide]
  rw [b_GT_putOnTape_3, if_neg (show ¬ (0 : Int32) < 0 by decide), if_pos ((ck_nI (by omega)).mpr (by omega)), nI_clamp (by omega), b4, upd_nf, nI_1, show (0 : Int32) + -8 = -8 by decide]
  rw [b_GT_putOnTape_3, if_pos (show (-8 : Int32) < 0 by decide)]
  rfl
theorem tp_u {k x : Nat} (h : tp z T) : tp (upd z k (sxb x)) (mu T k x) := by
  intro i hi
  by_cases e : i = k
  · subst e; rw [pk_us, mu_s]
  · rw [pk_un e, mu_n _ _ e]; exact h i hi
theorem m_put4 {tl : Nat} {w : Int32} (htl : tl + 4 ≤ 3000) (hz : tp z T) : ∃ z', f_MD_word1 (nI tl) z w = some (nI (tl + 4), z') ∧ tp z' (put4 T tl w) := by
  obtain ⟨b1, b2, b3, b4⟩ := byt_m w
  refine ⟨_, ?_, tp_u (tp_u (tp_u (tp_u hz)))⟩
  unfold f_MD_word1
  obtain ⟨u, hu⟩ : ∃ u, 65536 = u + 5 := ⟨65531, rfl⟩
  rw [hu]
  rw [b_MD_word1_3, if_neg (show ¬ (24 : Int32) < 0 by decide), if_pos ((ck_nI (by omega)).mpr (by omega)), nI_clamp (by omega), b1, nI_1, show (24 : Int32) + -8 = 16 by decide]
  rw [b_MD_word1_3, if_neg (show ¬ (16 : Int32) < 0 by decide), if_pos ((ck_nI (by omega)).mpr (by omega)), nI_clamp (by omega), b2, nI_1, show (16 : Int32) + -8 = 8 by decide]
  rw [b_MD_word1_3, if_neg (show ¬ (8 : Int32) < 0 by decide), if_pos ((ck_nI (by omega)).mpr (by omega)), nI_clamp (by omega), b3, nI_1, show (8 : Int32) + -8 = 0 by decide]
  rw [b_MD_word1_3, if_neg (show ¬ (0 : Int32) < 0 by decide), if_pos ((ck_nI (by omega)).mpr (by omega)), nI_clamp (by omega), b4, nI_1, show (0 : Int32) + -8 = -8 by decide]
  rw [b_MD_word1_3, if_pos (show (-8 : Int32) < 0 by decide)]
/-- FEED -/
theorem fd_both {tl : Nat} {a b c d e : Int32} (hT : ∀ i, T i < 256) (hz : tp z T) (htl : tl ≤ 3000) : ∃ (r : Int32) (tl' : Nat) (T' : Nat → Nat) (z' : Nat → Int32), tl' ≤ 3000 ∧ (∀ i, T' i < 256) ∧ tp z' T' ∧ f_GT_feed (nI tl) (nf T) a b c d e = some (r, nI tl', nf T') ∧ f_MD_feed (nI tl) z a b c d e = some (r, nI tl', z') := by
  have e20 : nI tl + 20 = nI (tl + 20) := nI_add tl 20
  unfold f_GT_feed f_MD_feed
  rw [e20, ic (show nI (tl + 20) ≤ (3000 : Int32) ↔ tl + 20 ≤ 3000 from nI_leI (b := 3000) (by omega) (by decide)), ic (show nI (tl + 20) ≤ (3000 : Int32) ↔ tl + 20 ≤ 3000 from nI_leI (b := 3000) (by omega) (by decide))]
  by_cases h : tl + 20 ≤ 3000
  · rw [if_pos h, if_pos h]
    obtain ⟨z1, m1, p1⟩ := m_put4 (w := a) (show tl + 4 ≤ 3000 by omega) hz
    obtain ⟨z2, m2, p2⟩ := m_put4 (w := b) (show tl + 4 + 4 ≤ 3000 by omega) p1
    obtain ⟨z3, m3, p3⟩ := m_put4 (w := c) (show tl + 4 + 4 + 4 ≤ 3000 by omega) p2
    obtain ⟨z4, m4, p4⟩ := m_put4 (w := d) (show tl + 4 + 4 + 4 + 4 ≤ 3000 by omega) p3
    obtain ⟨z5, m5, p5⟩ := m_put4 (w := e) (show tl + 4 + 4 + 4 + 4 + 4 ≤ 3000 by omega) p4
    refine ⟨nI (tl + 4 + 4 + 4 + 4 + 4), tl + 4 + 4 + 4 + 4 + 4, _, z5, by omega, put4_lt (put4_lt (put4_lt (put4_lt (put4_lt hT)))), p5, ?_, ?_⟩
    · rw [q_put4 (by omega), Option.bind_some]
      dsimp only
      rw [q_put4 (by omega), Option.bind_some]
      dsimp only
      rw [q_put4 (by omega), Option.bind_some]
      dsimp only
      rw [q_put4 (by omega), Option.bind_some]
      dsimp only
      rw [q_put4 (by omega), Option.bind_some]
    · rw [m1, Option.bind_some]
      dsimp only
      rw [m2, Option.bind_some]
      dsimp only
      rw [m3, Option.bind_some]
      dsimp only
      rw [m4, Option.bind_some]
      dsimp only
      rw [m5, Option.bind_some]
  · rw [if_neg h, if_neg h]
    exact ⟨-1, tl, T, z, htl, hT, hz, rfl, rfl⟩
/-- the Model's table of what an order wants -/
theorem md_init : ∃ zw, f_MD_init = some zw ∧ ∀ o, o < 25 → zw o = nI (wnt o) := by
  have K : ((f_MD_init.map fun zw => (List.range 25).map zw) = some ((List.range 25).map fun o => nI (wnt o))) := by decide +kernel
  obtain ⟨zw, hz⟩ : ∃ zw, f_MD_init = some zw := by
    cases h : f_MD_init with
    | none => rw [h] at K; cases K
    | some zw => exact ⟨zw, rfl⟩
  refine ⟨zw, hz, fun o ho => ?_⟩
  rw [hz] at K
  simp only [Option.map_some, Option.some.injEq] at K
  have := congrArg (fun l => l.getD o 0) K
  simp only [List.getD_eq_getElem?_getD, List.getElem?_map, List.getElem?_range ho] at this
  exact this
end ASL
