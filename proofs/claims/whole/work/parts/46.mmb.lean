/-! THE MODEL'S MACHINE: what each operation does -/
section MMB
theorem m_sub {x y : Nat} (hx : x < 65536) (hy : y < 65536) : nI x - nI y + 65536 = nI (x + 65536 - y) := by
  apply Int32.toInt_inj.mp
  rw [nI_toInt (by omega), Int32.toInt_add, Int32.toInt_sub, nI_toInt (by omega), nI_toInt (by omega)]
  have e : (65536 : Int32).toInt = 65536 := by decide
  rw [e, Int.bmod_eq_of_le (n := (x : Int) - y) (by omega) (by omega), Int.bmod_eq_of_le (by omega) (by omega)]
  omega
theorem m_d16 {n : Nat} (h : n < 65536) : nI n / 16 = nI (n / 16) := pk_div (d := 16) (by omega) (by decide) (by decide)
theorem m_r16 {n : Nat} (h : n < 65536) : nI n - nI (n / 16) * 16 = nI (n % 16) := by
  rw [← m_d16 h]
  exact r16 (by omega)
theorem m_a31 {k : Nat} (h : k < 16) : nI k &&& 31 = nI k := by
  have := pk_andN (n := k) (m := 31) (by omega) 5 (by decide)
  rw [this, Nat.mod_eq_of_lt (by omega)]
theorem m_smod {k : Nat} (h : k < 16) : ((nI k).toBitVec.smod 32).toNat = k := by
  have K : ∀ k, k < 16 → ((nI k).toBitVec.smod 32).toNat = k := by decide
  exact K k h
theorem m_pw {x k : Nat} (hx : x < 65536) (hk : k < 16) : x * 2 ^ k < 2 ^ 31 := by
  have hpw : 2 ^ k ≤ 32768 := by
    have : 2 ^ k ≤ 2 ^ 15 := Nat.pow_le_pow_right (by decide) (by omega)
    exact this
  calc x * 2 ^ k ≤ x * 32768 := Nat.mul_le_mul_left _ hpw
    _ < 2 ^ 31 := by omega
variable {g Sg md p ba bo ti a b n ad : Nat} {ro : Bool} {rg mm dk : Nat → Nat} {cs : mc_K} {fr : Int32} {zmem zreg zmd zpc zba zbo zti zro zha zou zop zwa zty zdk : Nat → Int32}
theorem m_does1 (hg : g < 3) (ha : a < 8) (hb : b < 8) (hn : n < 65536) (hr : ∀ j, rg j < 65536) (h : mR g Sg (zmem, zreg, zmd, zpc, zba, zbo, zti, zro, zha, zou, zop, zwa, zty, zdk) (md, p + 2, ba, bo, ti, ro, false, rg, mm, dk, cs)) : ∃ B', f_MD_does (nI g) zmem zreg zmd zpc zba zbo zti zro zha zou zop zwa zty zdk (nI 1) (nI a) (nI b) (nI n) fr (nI p) = some B' ∧ mR g Sg B' (md, (mc_alu 1 a b n p rg).1, ba, bo, ti, ro, false, (mc_alu 1 a b n p rg).2, mm, dk, cs) ∧ mF g (zmem, zreg, zmd, zpc, zba, zbo, zti, zro, zha, zou, zop, zwa, zty, zdk) B' := by
  obtain ⟨b1, b2, b3, b4, b5, b6, b7, b8, b9, b10, b11⟩ := h
  have ea := b2 a ha
  have eb := b2 b hb
  have la := hr a
  have lb := hr b
  have em : mc_alu 1 a b n p rg = (p + 2, mu rg a (n)) := rfl
  rw [em]
  refine ⟨(zmem, upd zreg (8 * g + a) (nI (n)), zmd, zpc, zba, zbo, zti, zro, zha, zou, zop, zwa, zty, zdk), ?_, ⟨b1, wn_upd b2, b3, b4, b5, b6, b7, b8, b9, b10, b11⟩, ⟨fo_r, fo_u fo_r (by omega), fs_r, fs_r, fs_r, fs_r, fs_r, fs_r, fs_r, fs_r, fo_r, fs_r, fo_r, fo_r⟩⟩
  · unfold f_MD_does
    simp only [if_pos (cg hg), nI_clamp (show g < 2 ^ 31 by omega), x8, nI_add, if_pos ((ck_nI (n := 8 * g + a) (N := 24) (by omega)).mpr (by omega)), if_pos ((ck_nI (n := 8 * g + b) (N := 24) (by omega)).mpr (by omega)), nI_clamp (show 8 * g + a < 2 ^ 31 by omega), nI_clamp (show 8 * g + b < 2 ^ 31 by omega), ea, eb, if_neg (show ¬ nI 1 = (0 : Int32) by decide), if_pos (show nI 1 = (1 : Int32) by decide)]
theorem m_does6 (hg : g < 3) (ha : a < 8) (hb : b < 8) (hn : n < 65536) (hr : ∀ j, rg j < 65536) (h : mR g Sg (zmem, zreg, zmd, zpc, zba, zbo, zti, zro, zha, zou, zop, zwa, zty, zdk) (md, p + 2, ba, bo, ti, ro, false, rg, mm, dk, cs)) : ∃ B', f_MD_does (nI g) zmem zreg zmd zpc zba zbo zti zro zha zou zop zwa zty zdk (nI 6) (nI a) (nI b) (nI n) fr (nI p) = some B' ∧ mR g Sg B' (md, (mc_alu 6 a b n p rg).1, ba, bo, ti, ro, false, (mc_alu 6 a b n p rg).2, mm, dk, cs) ∧ mF g (zmem, zreg, zmd, zpc, zba, zbo, zti, zro, zha, zou, zop, zwa, zty, zdk) B' := by
  obtain ⟨b1, b2, b3, b4, b5, b6, b7, b8, b9, b10, b11⟩ := h
  have ea := b2 a ha
  have eb := b2 b hb
  have la := hr a
  have lb := hr b
  have em : mc_alu 6 a b n p rg = (p + 2, mu rg a (rg b)) := rfl
  rw [em]
  refine ⟨(zmem, upd zreg (8 * g + a) (nI (rg b)), zmd, zpc, zba, zbo, zti, zro, zha, zou, zop, zwa, zty, zdk), ?_, ⟨b1, wn_upd b2, b3, b4, b5, b6, b7, b8, b9, b10, b11⟩, ⟨fo_r, fo_u fo_r (by omega), fs_r, fs_r, fs_r, fs_r, fs_r, fs_r, fs_r, fs_r, fo_r, fs_r, fo_r, fo_r⟩⟩
  · unfold f_MD_does
    simp only [if_pos (cg hg), nI_clamp (show g < 2 ^ 31 by omega), x8, nI_add, if_pos ((ck_nI (n := 8 * g + a) (N := 24) (by omega)).mpr (by omega)), if_pos ((ck_nI (n := 8 * g + b) (N := 24) (by omega)).mpr (by omega)), nI_clamp (show 8 * g + a < 2 ^ 31 by omega), nI_clamp (show 8 * g + b < 2 ^ 31 by omega), ea, eb, if_neg (show ¬ nI 6 = (0 : Int32) by decide), if_neg (show ¬ nI 6 = (1 : Int32) by decide), if_neg (show ¬ nI 6 = (2 : Int32) by decide), if_neg (show ¬ nI 6 = (3 : Int32) by decide), if_neg (show ¬ nI 6 = (4 : Int32) by decide), if_neg (show ¬ nI 6 = (5 : Int32) by decide), if_pos (show nI 6 = (6 : Int32) by decide)]
theorem m_does7 (hg : g < 3) (ha : a < 8) (hb : b < 8) (hn : n < 65536) (hr : ∀ j, rg j < 65536) (h : mR g Sg (zmem, zreg, zmd, zpc, zba, zbo, zti, zro, zha, zou, zop, zwa, zty, zdk) (md, p + 2, ba, bo, ti, ro, false, rg, mm, dk, cs)) : ∃ B', f_MD_does (nI g) zmem zreg zmd zpc zba zbo zti zro zha zou zop zwa zty zdk (nI 7) (nI a) (nI b) (nI n) fr (nI p) = some B' ∧ mR g Sg B' (md, (mc_alu 7 a b n p rg).1, ba, bo, ti, ro, false, (mc_alu 7 a b n p rg).2, mm, dk, cs) ∧ mF g (zmem, zreg, zmd, zpc, zba, zbo, zti, zro, zha, zou, zop, zwa, zty, zdk) B' := by
  obtain ⟨b1, b2, b3, b4, b5, b6, b7, b8, b9, b10, b11⟩ := h
  have ea := b2 a ha
  have eb := b2 b hb
  have la := hr a
  have lb := hr b
  have em : mc_alu 7 a b n p rg = (p + 2, mu rg a ((rg a + rg b) % 65536)) := rfl
  rw [em]
  refine ⟨(zmem, upd zreg (8 * g + a) (nI ((rg a + rg b) % 65536)), zmd, zpc, zba, zbo, zti, zro, zha, zou, zop, zwa, zty, zdk), ?_, ⟨b1, wn_upd b2, b3, b4, b5, b6, b7, b8, b9, b10, b11⟩, ⟨fo_r, fo_u fo_r (by omega), fs_r, fs_r, fs_r, fs_r, fs_r, fs_r, fs_r, fs_r, fo_r, fs_r, fo_r, fo_r⟩⟩
  · unfold f_MD_does
    simp only [if_pos (cg hg), nI_clamp (show g < 2 ^ 31 by omega), x8, nI_add, if_pos ((ck_nI (n := 8 * g + a) (N := 24) (by omega)).mpr (by omega)), if_pos ((ck_nI (n := 8 * g + b) (N := 24) (by omega)).mpr (by omega)), nI_clamp (show 8 * g + a < 2 ^ 31 by omega), nI_clamp (show 8 * g + b < 2 ^ 31 by omega), ea, eb, if_neg (show ¬ nI 7 = (0 : Int32) by decide), if_neg (show ¬ nI 7 = (1 : Int32) by decide), if_neg (show ¬ nI 7 = (2 : Int32) by decide), if_neg (show ¬ nI 7 = (3 : Int32) by decide), if_neg (show ¬ nI 7 = (4 : Int32) by decide), if_neg (show ¬ nI 7 = (5 : Int32) by decide), if_neg (show ¬ nI 7 = (6 : Int32) by decide), if_pos (show nI 7 = (7 : Int32) by decide), r65 (a := rg a + rg b) (by omega)]
theorem m_does8 (hg : g < 3) (ha : a < 8) (hb : b < 8) (hn : n < 65536) (hr : ∀ j, rg j < 65536) (h : mR g Sg (zmem, zreg, zmd, zpc, zba, zbo, zti, zro, zha, zou, zop, zwa, zty, zdk) (md, p + 2, ba, bo, ti, ro, false, rg, mm, dk, cs)) : ∃ B', f_MD_does (nI g) zmem zreg zmd zpc zba zbo zti zro zha zou zop zwa zty zdk (nI 8) (nI a) (nI b) (nI n) fr (nI p) = some B' ∧ mR g Sg B' (md, (mc_alu 8 a b n p rg).1, ba, bo, ti, ro, false, (mc_alu 8 a b n p rg).2, mm, dk, cs) ∧ mF g (zmem, zreg, zmd, zpc, zba, zbo, zti, zro, zha, zou, zop, zwa, zty, zdk) B' := by
  obtain ⟨b1, b2, b3, b4, b5, b6, b7, b8, b9, b10, b11⟩ := h
  have ea := b2 a ha
  have eb := b2 b hb
  have la := hr a
  have lb := hr b
  have em : mc_alu 8 a b n p rg = (p + 2, mu rg a ((rg a + 65536 - rg b) % 65536)) := rfl
  rw [em]
  refine ⟨(zmem, upd zreg (8 * g + a) (nI ((rg a + 65536 - rg b) % 65536)), zmd, zpc, zba, zbo, zti, zro, zha, zou, zop, zwa, zty, zdk), ?_, ⟨b1, wn_upd b2, b3, b4, b5, b6, b7, b8, b9, b10, b11⟩, ⟨fo_r, fo_u fo_r (by omega), fs_r, fs_r, fs_r, fs_r, fs_r, fs_r, fs_r, fs_r, fo_r, fs_r, fo_r, fo_r⟩⟩
  · unfold f_MD_does
    simp only [if_pos (cg hg), nI_clamp (show g < 2 ^ 31 by omega), x8, nI_add, if_pos ((ck_nI (n := 8 * g + a) (N := 24) (by omega)).mpr (by omega)), if_pos ((ck_nI (n := 8 * g + b) (N := 24) (by omega)).mpr (by omega)), nI_clamp (show 8 * g + a < 2 ^ 31 by omega), nI_clamp (show 8 * g + b < 2 ^ 31 by omega), ea, eb, if_neg (show ¬ nI 8 = (0 : Int32) by decide), if_neg (show ¬ nI 8 = (1 : Int32) by decide), if_neg (show ¬ nI 8 = (2 : Int32) by decide), if_neg (show ¬ nI 8 = (3 : Int32) by decide), if_neg (show ¬ nI 8 = (4 : Int32) by decide), if_neg (show ¬ nI 8 = (5 : Int32) by decide), if_neg (show ¬ nI 8 = (6 : Int32) by decide), if_neg (show ¬ nI 8 = (7 : Int32) by decide), if_pos (show nI 8 = (8 : Int32) by decide), m_sub la lb, r65 (a := rg a + 65536 - rg b) (by omega)]
theorem m_does9 (hg : g < 3) (ha : a < 8) (hb : b < 8) (hn : n < 65536) (hr : ∀ j, rg j < 65536) (h : mR g Sg (zmem, zreg, zmd, zpc, zba, zbo, zti, zro, zha, zou, zop, zwa, zty, zdk) (md, p + 2, ba, bo, ti, ro, false, rg, mm, dk, cs)) : ∃ B', f_MD_does (nI g) zmem zreg zmd zpc zba zbo zti zro zha zou zop zwa zty zdk (nI 9) (nI a) (nI b) (nI n) fr (nI p) = some B' ∧ mR g Sg B' (md, (mc_alu 9 a b n p rg).1, ba, bo, ti, ro, false, (mc_alu 9 a b n p rg).2, mm, dk, cs) ∧ mF g (zmem, zreg, zmd, zpc, zba, zbo, zti, zro, zha, zou, zop, zwa, zty, zdk) B' := by
  obtain ⟨b1, b2, b3, b4, b5, b6, b7, b8, b9, b10, b11⟩ := h
  have ea := b2 a ha
  have eb := b2 b hb
  have la := hr a
  have lb := hr b
  have em : mc_alu 9 a b n p rg = (p + 2, mu rg a (rg a &&& rg b)) := rfl
  rw [em]
  refine ⟨(zmem, upd zreg (8 * g + a) (nI (rg a &&& rg b)), zmd, zpc, zba, zbo, zti, zro, zha, zou, zop, zwa, zty, zdk), ?_, ⟨b1, wn_upd b2, b3, b4, b5, b6, b7, b8, b9, b10, b11⟩, ⟨fo_r, fo_u fo_r (by omega), fs_r, fs_r, fs_r, fs_r, fs_r, fs_r, fs_r, fs_r, fo_r, fs_r, fo_r, fo_r⟩⟩
  · unfold f_MD_does
    simp only [if_pos (cg hg), nI_clamp (show g < 2 ^ 31 by omega), x8, nI_add, if_pos ((ck_nI (n := 8 * g + a) (N := 24) (by omega)).mpr (by omega)), if_pos ((ck_nI (n := 8 * g + b) (N := 24) (by omega)).mpr (by omega)), nI_clamp (show 8 * g + a < 2 ^ 31 by omega), nI_clamp (show 8 * g + b < 2 ^ 31 by omega), ea, eb, if_neg (show ¬ nI 9 = (0 : Int32) by decide), if_neg (show ¬ nI 9 = (1 : Int32) by decide), if_neg (show ¬ nI 9 = (2 : Int32) by decide), if_neg (show ¬ nI 9 = (3 : Int32) by decide), if_neg (show ¬ nI 9 = (4 : Int32) by decide), if_neg (show ¬ nI 9 = (5 : Int32) by decide), if_neg (show ¬ nI 9 = (6 : Int32) by decide), if_neg (show ¬ nI 9 = (7 : Int32) by decide), if_neg (show ¬ nI 9 = (8 : Int32) by decide), if_pos (show nI 9 = (9 : Int32) by decide), q_and]
theorem m_does10 (hg : g < 3) (ha : a < 8) (hb : b < 8) (hn : n < 65536) (hr : ∀ j, rg j < 65536) (h : mR g Sg (zmem, zreg, zmd, zpc, zba, zbo, zti, zro, zha, zou, zop, zwa, zty, zdk) (md, p + 2, ba, bo, ti, ro, false, rg, mm, dk, cs)) : ∃ B', f_MD_does (nI g) zmem zreg zmd zpc zba zbo zti zro zha zou zop zwa zty zdk (nI 10) (nI a) (nI b) (nI n) fr (nI p) = some B' ∧ mR g Sg B' (md, (mc_alu 10 a b n p rg).1, ba, bo, ti, ro, false, (mc_alu 10 a b n p rg).2, mm, dk, cs) ∧ mF g (zmem, zreg, zmd, zpc, zba, zbo, zti, zro, zha, zou, zop, zwa, zty, zdk) B' := by
  obtain ⟨b1, b2, b3, b4, b5, b6, b7, b8, b9, b10, b11⟩ := h
  have ea := b2 a ha
  have eb := b2 b hb
  have la := hr a
  have lb := hr b
  have em : mc_alu 10 a b n p rg = (p + 2, mu rg a (if rg a < rg b then 1 else 0)) := rfl
  rw [em]
  refine ⟨(zmem, upd zreg (8 * g + a) (nI (if rg a < rg b then 1 else 0)), zmd, zpc, zba, zbo, zti, zro, zha, zou, zop, zwa, zty, zdk), ?_, ⟨b1, wn_upd b2, b3, b4, b5, b6, b7, b8, b9, b10, b11⟩, ⟨fo_r, fo_u fo_r (by omega), fs_r, fs_r, fs_r, fs_r, fs_r, fs_r, fs_r, fs_r, fo_r, fs_r, fo_r, fo_r⟩⟩
  · unfold f_MD_does
    simp only [if_pos (cg hg), nI_clamp (show g < 2 ^ 31 by omega), x8, nI_add, if_pos ((ck_nI (n := 8 * g + a) (N := 24) (by omega)).mpr (by omega)), if_pos ((ck_nI (n := 8 * g + b) (N := 24) (by omega)).mpr (by omega)), nI_clamp (show 8 * g + a < 2 ^ 31 by omega), nI_clamp (show 8 * g + b < 2 ^ 31 by omega), ea, eb, if_neg (show ¬ nI 10 = (0 : Int32) by decide), if_neg (show ¬ nI 10 = (1 : Int32) by decide), if_neg (show ¬ nI 10 = (2 : Int32) by decide), if_neg (show ¬ nI 10 = (3 : Int32) by decide), if_neg (show ¬ nI 10 = (4 : Int32) by decide), if_neg (show ¬ nI 10 = (5 : Int32) by decide), if_neg (show ¬ nI 10 = (6 : Int32) by decide), if_neg (show ¬ nI 10 = (7 : Int32) by decide), if_neg (show ¬ nI 10 = (8 : Int32) by decide), if_neg (show ¬ nI 10 = (9 : Int32) by decide), if_pos (show nI 10 = (10 : Int32) by decide)]
    rw [ic (nI_leI (by omega) (by omega))]
    by_cases q : rg b ≤ rg a
    · rw [if_pos q, if_neg (show ¬ rg a < rg b by omega)]; rfl
    · rw [if_neg q, if_pos (show rg a < rg b by omega)]; rfl
theorem m_does11 (hg : g < 3) (ha : a < 8) (hb : b < 8) (hn : n < 65536) (hr : ∀ j, rg j < 65536) (h : mR g Sg (zmem, zreg, zmd, zpc, zba, zbo, zti, zro, zha, zou, zop, zwa, zty, zdk) (md, p + 2, ba, bo, ti, ro, false, rg, mm, dk, cs)) : ∃ B', f_MD_does (nI g) zmem zreg zmd zpc zba zbo zti zro zha zou zop zwa zty zdk (nI 11) (nI a) (nI b) (nI n) fr (nI p) = some B' ∧ mR g Sg B' (md, (mc_alu 11 a b n p rg).1, ba, bo, ti, ro, false, (mc_alu 11 a b n p rg).2, mm, dk, cs) ∧ mF g (zmem, zreg, zmd, zpc, zba, zbo, zti, zro, zha, zou, zop, zwa, zty, zdk) B' := by
  obtain ⟨b1, b2, b3, b4, b5, b6, b7, b8, b9, b10, b11⟩ := h
  have ea := b2 a ha
  have eb := b2 b hb
  have la := hr a
  have lb := hr b
  have em : mc_alu 11 a b n p rg = (p + 2, mu rg a (mc_sh (rg a) n)) := rfl
  rw [em]
  refine ⟨(zmem, upd zreg (8 * g + a) (nI (mc_sh (rg a) n)), zmd, zpc, zba, zbo, zti, zro, zha, zou, zop, zwa, zty, zdk), ?_, ⟨b1, wn_upd b2, b3, b4, b5, b6, b7, b8, b9, b10, b11⟩, ⟨fo_r, fo_u fo_r (by omega), fs_r, fs_r, fs_r, fs_r, fs_r, fs_r, fs_r, fs_r, fo_r, fs_r, fo_r, fo_r⟩⟩
  · unfold f_MD_does
    simp only [if_pos (cg hg), nI_clamp (show g < 2 ^ 31 by omega), x8, nI_add, if_pos ((ck_nI (n := 8 * g + a) (N := 24) (by omega)).mpr (by omega)), if_pos ((ck_nI (n := 8 * g + b) (N := 24) (by omega)).mpr (by omega)), nI_clamp (show 8 * g + a < 2 ^ 31 by omega), nI_clamp (show 8 * g + b < 2 ^ 31 by omega), ea, eb, if_neg (show ¬ nI 11 = (0 : Int32) by decide), if_neg (show ¬ nI 11 = (1 : Int32) by decide), if_neg (show ¬ nI 11 = (2 : Int32) by decide), if_neg (show ¬ nI 11 = (3 : Int32) by decide), if_neg (show ¬ nI 11 = (4 : Int32) by decide), if_neg (show ¬ nI 11 = (5 : Int32) by decide), if_neg (show ¬ nI 11 = (6 : Int32) by decide), if_neg (show ¬ nI 11 = (7 : Int32) by decide), if_neg (show ¬ nI 11 = (8 : Int32) by decide), if_neg (show ¬ nI 11 = (9 : Int32) by decide), if_neg (show ¬ nI 11 = (10 : Int32) by decide), if_pos (show nI 11 = (11 : Int32) by decide), m_d16 hn, r2 (a := n / 16) (by omega), m_r16 hn, m_a31 (Nat.mod_lt n (show 16 > 0 by decide)), pk_shlN _ _ (m_smod (Nat.mod_lt n (show 16 > 0 by decide))) (Nat.lt_trans (m_pw la (Nat.mod_lt n (show 16 > 0 by decide))) (by decide)), pk_shrN (show rg a < 2 ^ 31 by omega) _ _ (m_smod (Nat.mod_lt n (show 16 > 0 by decide))), r65 (m_pw la (Nat.mod_lt n (show 16 > 0 by decide)))]
    unfold mc_sh
    rw [ic (nIe_0 (by omega))]
    by_cases q : n / 16 % 2 = 0
    · rw [if_pos q, if_pos q]
    · rw [if_neg q, if_neg q]
theorem m_does12 (hg : g < 3) (ha : a < 8) (hb : b < 8) (hn : n < 65536) (hr : ∀ j, rg j < 65536) (h : mR g Sg (zmem, zreg, zmd, zpc, zba, zbo, zti, zro, zha, zou, zop, zwa, zty, zdk) (md, p + 2, ba, bo, ti, ro, false, rg, mm, dk, cs)) : ∃ B', f_MD_does (nI g) zmem zreg zmd zpc zba zbo zti zro zha zou zop zwa zty zdk (nI 12) (nI a) (nI b) (nI n) fr (nI p) = some B' ∧ mR g Sg B' (md, (mc_alu 12 a b n p rg).1, ba, bo, ti, ro, false, (mc_alu 12 a b n p rg).2, mm, dk, cs) ∧ mF g (zmem, zreg, zmd, zpc, zba, zbo, zti, zro, zha, zou, zop, zwa, zty, zdk) B' := by
  obtain ⟨b1, b2, b3, b4, b5, b6, b7, b8, b9, b10, b11⟩ := h
  have ea := b2 a ha
  have eb := b2 b hb
  have la := hr a
  have lb := hr b
  have em : mc_alu 12 a b n p rg = (n, rg) := rfl
  rw [em]
  refine ⟨(zmem, zreg, zmd, upd zpc g (nI n), zba, zbo, zti, zro, zha, zou, zop, zwa, zty, zdk), ?_, ⟨b1, b2, b3, pk_us, b5, b6, b7, b8, b9, b10, b11⟩, ⟨fo_r, fo_r, fs_r, fs_u fs_r, fs_r, fs_r, fs_r, fs_r, fs_r, fs_r, fo_r, fs_r, fo_r, fo_r⟩⟩
  · unfold f_MD_does
    simp only [if_pos (cg hg), nI_clamp (show g < 2 ^ 31 by omega), x8, nI_add, if_pos ((ck_nI (n := 8 * g + a) (N := 24) (by omega)).mpr (by omega)), if_pos ((ck_nI (n := 8 * g + b) (N := 24) (by omega)).mpr (by omega)), nI_clamp (show 8 * g + a < 2 ^ 31 by omega), nI_clamp (show 8 * g + b < 2 ^ 31 by omega), ea, eb, if_neg (show ¬ nI 12 = (0 : Int32) by decide), if_neg (show ¬ nI 12 = (1 : Int32) by decide), if_neg (show ¬ nI 12 = (2 : Int32) by decide), if_neg (show ¬ nI 12 = (3 : Int32) by decide), if_neg (show ¬ nI 12 = (4 : Int32) by decide), if_neg (show ¬ nI 12 = (5 : Int32) by decide), if_neg (show ¬ nI 12 = (6 : Int32) by decide), if_neg (show ¬ nI 12 = (7 : Int32) by decide), if_neg (show ¬ nI 12 = (8 : Int32) by decide), if_neg (show ¬ nI 12 = (9 : Int32) by decide), if_neg (show ¬ nI 12 = (10 : Int32) by decide), if_neg (show ¬ nI 12 = (11 : Int32) by decide), if_pos (show nI 12 = (12 : Int32) by decide)]
theorem m_does14 (hg : g < 3) (ha : a < 8) (hb : b < 8) (hn : n < 65536) (hr : ∀ j, rg j < 65536) (h : mR g Sg (zmem, zreg, zmd, zpc, zba, zbo, zti, zro, zha, zou, zop, zwa, zty, zdk) (md, p + 2, ba, bo, ti, ro, false, rg, mm, dk, cs)) : ∃ B', f_MD_does (nI g) zmem zreg zmd zpc zba zbo zti zro zha zou zop zwa zty zdk (nI 14) (nI a) (nI b) (nI n) fr (nI p) = some B' ∧ mR g Sg B' (md, (mc_alu 14 a b n p rg).1, ba, bo, ti, ro, false, (mc_alu 14 a b n p rg).2, mm, dk, cs) ∧ mF g (zmem, zreg, zmd, zpc, zba, zbo, zti, zro, zha, zou, zop, zwa, zty, zdk) B' := by
  obtain ⟨b1, b2, b3, b4, b5, b6, b7, b8, b9, b10, b11⟩ := h
  have ea := b2 a ha
  have eb := b2 b hb
  have la := hr a
  have lb := hr b
  have em : mc_alu 14 a b n p rg = (rg a, rg) := rfl
  rw [em]
  refine ⟨(zmem, zreg, zmd, upd zpc g (nI (rg a)), zba, zbo, zti, zro, zha, zou, zop, zwa, zty, zdk), ?_, ⟨b1, b2, b3, pk_us, b5, b6, b7, b8, b9, b10, b11⟩, ⟨fo_r, fo_r, fs_r, fs_u fs_r, fs_r, fs_r, fs_r, fs_r, fs_r, fs_r, fo_r, fs_r, fo_r, fo_r⟩⟩
  · unfold f_MD_does
    simp only [if_pos (cg hg), nI_clamp (show g < 2 ^ 31 by omega), x8, nI_add, if_pos ((ck_nI (n := 8 * g + a) (N := 24) (by omega)).mpr (by omega)), if_pos ((ck_nI (n := 8 * g + b) (N := 24) (by omega)).mpr (by omega)), nI_clamp (show 8 * g + a < 2 ^ 31 by omega), nI_clamp (show 8 * g + b < 2 ^ 31 by omega), ea, eb, if_neg (show ¬ nI 14 = (0 : Int32) by decide), if_neg (show ¬ nI 14 = (1 : Int32) by decide), if_neg (show ¬ nI 14 = (2 : Int32) by decide), if_neg (show ¬ nI 14 = (3 : Int32) by decide), if_neg (show ¬ nI 14 = (4 : Int32) by decide), if_neg (show ¬ nI 14 = (5 : Int32) by decide), if_neg (show ¬ nI 14 = (6 : Int32) by decide), if_neg (show ¬ nI 14 = (7 : Int32) by decide), if_neg (show ¬ nI 14 = (8 : Int32) by decide), if_neg (show ¬ nI 14 = (9 : Int32) by decide), if_neg (show ¬ nI 14 = (10 : Int32) by decide), if_neg (show ¬ nI 14 = (11 : Int32) by decide), if_neg (show ¬ nI 14 = (12 : Int32) by decide), if_neg (show ¬ nI 14 = (13 : Int32) by decide), if_pos (show nI 14 = (14 : Int32) by decide)]
theorem m_does15 (hg : g < 3) (ha : a < 8) (hb : b < 8) (hn : n < 65536) (hp : p + 2 < 65536) (hr : ∀ j, rg j < 65536) (h : mR g Sg (zmem, zreg, zmd, zpc, zba, zbo, zti, zro, zha, zou, zop, zwa, zty, zdk) (md, p + 2, ba, bo, ti, ro, false, rg, mm, dk, cs)) : ∃ B', f_MD_does (nI g) zmem zreg zmd zpc zba zbo zti zro zha zou zop zwa zty zdk (nI 15) (nI a) (nI b) (nI n) fr (nI p) = some B' ∧ mR g Sg B' (md, (mc_alu 15 a b n p rg).1, ba, bo, ti, ro, false, (mc_alu 15 a b n p rg).2, mm, dk, cs) ∧ mF g (zmem, zreg, zmd, zpc, zba, zbo, zti, zro, zha, zou, zop, zwa, zty, zdk) B' := by
  obtain ⟨b1, b2, b3, b4, b5, b6, b7, b8, b9, b10, b11⟩ := h
  have ea := b2 a ha
  have eb := b2 b hb
  have la := hr a
  have lb := hr b
  have em : mc_alu 15 a b n p rg = (n, mu rg a (p + 2)) := rfl
  rw [em]
  refine ⟨(zmem, upd zreg (8 * g + a) (nI (p + 2)), zmd, upd zpc g (nI n), zba, zbo, zti, zro, zha, zou, zop, zwa, zty, zdk), ?_, ⟨b1, wn_upd b2, b3, pk_us, b5, b6, b7, b8, b9, b10, b11⟩, ⟨fo_r, fo_u fo_r (by omega), fs_r, fs_u fs_r, fs_r, fs_r, fs_r, fs_r, fs_r, fs_r, fo_r, fs_r, fo_r, fo_r⟩⟩
  · unfold f_MD_does
    simp only [if_pos (cg hg), nI_clamp (show g < 2 ^ 31 by omega), x8, nI_add, if_pos ((ck_nI (n := 8 * g + a) (N := 24) (by omega)).mpr (by omega)), if_pos ((ck_nI (n := 8 * g + b) (N := 24) (by omega)).mpr (by omega)), nI_clamp (show 8 * g + a < 2 ^ 31 by omega), nI_clamp (show 8 * g + b < 2 ^ 31 by omega), ea, eb, if_neg (show ¬ nI 15 = (0 : Int32) by decide), if_neg (show ¬ nI 15 = (1 : Int32) by decide), if_neg (show ¬ nI 15 = (2 : Int32) by decide), if_neg (show ¬ nI 15 = (3 : Int32) by decide), if_neg (show ¬ nI 15 = (4 : Int32) by decide), if_neg (show ¬ nI 15 = (5 : Int32) by decide), if_neg (show ¬ nI 15 = (6 : Int32) by decide), if_neg (show ¬ nI 15 = (7 : Int32) by decide), if_neg (show ¬ nI 15 = (8 : Int32) by decide), if_neg (show ¬ nI 15 = (9 : Int32) by decide), if_neg (show ¬ nI 15 = (10 : Int32) by decide), if_neg (show ¬ nI 15 = (11 : Int32) by decide), if_neg (show ¬ nI 15 = (12 : Int32) by decide), if_neg (show ¬ nI 15 = (13 : Int32) by decide), if_neg (show ¬ nI 15 = (14 : Int32) by decide), if_pos (show nI 15 = (15 : Int32) by decide), nI_p2, r65 (a := p + 2) (by omega), Nat.mod_eq_of_lt hp]
theorem m_does13 (hg : g < 3) (ha : a < 8) (hb : b < 8) (hn : n < 65536) (hr : ∀ j, rg j < 65536) (h : mR g Sg (zmem, zreg, zmd, zpc, zba, zbo, zti, zro, zha, zou, zop, zwa, zty, zdk) (md, p + 2, ba, bo, ti, ro, false, rg, mm, dk, cs)) : ∃ B', f_MD_does (nI g) zmem zreg zmd zpc zba zbo zti zro zha zou zop zwa zty zdk (nI 13) (nI a) (nI b) (nI n) fr (nI p) = some B' ∧ mR g Sg B' (md, (mc_alu 13 a b n p rg).1, ba, bo, ti, ro, false, (mc_alu 13 a b n p rg).2, mm, dk, cs) ∧ mF g (zmem, zreg, zmd, zpc, zba, zbo, zti, zro, zha, zou, zop, zwa, zty, zdk) B' := by
  obtain ⟨b1, b2, b3, b4, b5, b6, b7, b8, b9, b10, b11⟩ := h
  have ea := b2 a ha
  have eb := b2 b hb
  have la := hr a
  have lb := hr b
  have em : mc_alu 13 a b n p rg = ((if rg a = 0 then n else p + 2), rg) := rfl
  rw [em]
  by_cases q : rg a = 0
  · rw [if_pos q]
    refine ⟨(zmem, zreg, zmd, upd zpc g (nI n), zba, zbo, zti, zro, zha, zou, zop, zwa, zty, zdk), ?_, ⟨b1, b2, b3, pk_us, b5, b6, b7, b8, b9, b10, b11⟩, ⟨fo_r, fo_r, fs_r, fs_u fs_r, fs_r, fs_r, fs_r, fs_r, fs_r, fs_r, fo_r, fs_r, fo_r, fo_r⟩⟩
    unfold f_MD_does
    simp only [if_pos (cg hg), nI_clamp (show g < 2 ^ 31 by omega), x8, nI_add, if_pos ((ck_nI (n := 8 * g + a) (N := 24) (by omega)).mpr (by omega)), if_pos ((ck_nI (n := 8 * g + b) (N := 24) (by omega)).mpr (by omega)), nI_clamp (show 8 * g + a < 2 ^ 31 by omega), nI_clamp (show 8 * g + b < 2 ^ 31 by omega), ea, eb, if_neg (show ¬ nI 13 = (0 : Int32) by decide), if_neg (show ¬ nI 13 = (1 : Int32) by decide), if_neg (show ¬ nI 13 = (2 : Int32) by decide), if_neg (show ¬ nI 13 = (3 : Int32) by decide), if_neg (show ¬ nI 13 = (4 : Int32) by decide), if_neg (show ¬ nI 13 = (5 : Int32) by decide), if_neg (show ¬ nI 13 = (6 : Int32) by decide), if_neg (show ¬ nI 13 = (7 : Int32) by decide), if_neg (show ¬ nI 13 = (8 : Int32) by decide), if_neg (show ¬ nI 13 = (9 : Int32) by decide), if_neg (show ¬ nI 13 = (10 : Int32) by decide), if_neg (show ¬ nI 13 = (11 : Int32) by decide), if_neg (show ¬ nI 13 = (12 : Int32) by decide), if_pos (show nI 13 = (13 : Int32) by decide)]
    rw [if_pos ((nIe_0 (by omega)).mpr q)]
  · rw [if_neg q]
    refine ⟨(zmem, zreg, zmd, zpc, zba, zbo, zti, zro, zha, zou, zop, zwa, zty, zdk), ?_, ⟨b1, b2, b3, b4, b5, b6, b7, b8, b9, b10, b11⟩, ⟨fo_r, fo_r, fs_r, fs_r, fs_r, fs_r, fs_r, fs_r, fs_r, fs_r, fo_r, fs_r, fo_r, fo_r⟩⟩
    unfold f_MD_does
    simp only [if_pos (cg hg), nI_clamp (show g < 2 ^ 31 by omega), x8, nI_add, if_pos ((ck_nI (n := 8 * g + a) (N := 24) (by omega)).mpr (by omega)), if_pos ((ck_nI (n := 8 * g + b) (N := 24) (by omega)).mpr (by omega)), nI_clamp (show 8 * g + a < 2 ^ 31 by omega), nI_clamp (show 8 * g + b < 2 ^ 31 by omega), ea, eb, if_neg (show ¬ nI 13 = (0 : Int32) by decide), if_neg (show ¬ nI 13 = (1 : Int32) by decide), if_neg (show ¬ nI 13 = (2 : Int32) by decide), if_neg (show ¬ nI 13 = (3 : Int32) by decide), if_neg (show ¬ nI 13 = (4 : Int32) by decide), if_neg (show ¬ nI 13 = (5 : Int32) by decide), if_neg (show ¬ nI 13 = (6 : Int32) by decide), if_neg (show ¬ nI 13 = (7 : Int32) by decide), if_neg (show ¬ nI 13 = (8 : Int32) by decide), if_neg (show ¬ nI 13 = (9 : Int32) by decide), if_neg (show ¬ nI 13 = (10 : Int32) by decide), if_neg (show ¬ nI 13 = (11 : Int32) by decide), if_neg (show ¬ nI 13 = (12 : Int32) by decide), if_pos (show nI 13 = (13 : Int32) by decide)]
    rw [if_neg (fun z => q ((nIe_0 (by omega)).mp z))]
theorem m_does2 (hg : g < 3) (ha : a < 8) (hb : b < 8) (hn : n < 65536) (hr : ∀ j, rg j < 65536) (hS : Sg ≤ 1024) (had : ba + ad < Sg) (h : mR g Sg (zmem, zreg, zmd, zpc, zba, zbo, zti, zro, zha, zou, zop, zwa, zty, zdk) (md, p + 2, ba, bo, ti, ro, false, rg, mm, dk, cs)) : ∃ B', f_MD_does (nI g) zmem zreg zmd zpc zba zbo zti zro zha zou zop zwa zty zdk (nI 2) (nI a) (nI b) (nI n) (nI ad) (nI p) = some B' ∧ mR g Sg B' (md, p + 2, ba, bo, ti, ro, false, mu rg a (mm (ba + ad)), mm, dk, cs) ∧ mF g (zmem, zreg, zmd, zpc, zba, zbo, zti, zro, zha, zou, zop, zwa, zty, zdk) B' := by
  obtain ⟨b1, b2, b3, b4, b5, b6, b7, b8, b9, b10, b11⟩ := h
  have ea := b2 a ha
  have eb := b2 b hb
  have la := hr a
  have lb := hr b
  have em := b1 (ba + ad) had
  refine ⟨(zmem, upd zreg (8 * g + a) (nI (mm (ba + ad))), zmd, zpc, zba, zbo, zti, zro, zha, zou, zop, zwa, zty, zdk), ?_, ⟨b1, wn_upd b2, b3, b4, b5, b6, b7, b8, b9, b10, b11⟩, ⟨fo_r, fo_u fo_r (by omega), fs_r, fs_r, fs_r, fs_r, fs_r, fs_r, fs_r, fs_r, fo_r, fs_r, fo_r, fo_r⟩⟩
  · unfold f_MD_does
    simp only [if_pos (cg hg), nI_clamp (show g < 2 ^ 31 by omega), x8, nI_add, if_pos ((ck_nI (n := 8 * g + a) (N := 24) (by omega)).mpr (by omega)), if_pos ((ck_nI (n := 8 * g + b) (N := 24) (by omega)).mpr (by omega)), nI_clamp (show 8 * g + a < 2 ^ 31 by omega), nI_clamp (show 8 * g + b < 2 ^ 31 by omega), ea, eb, if_neg (show ¬ nI 2 = (0 : Int32) by decide), if_neg (show ¬ nI 2 = (1 : Int32) by decide), if_pos (show nI 2 = (2 : Int32) by decide), m_get hg b5 (show ba + ad < 1024 by omega), Option.bind_some, em]
theorem m_does4 (hg : g < 3) (ha : a < 8) (hb : b < 8) (hn : n < 65536) (hr : ∀ j, rg j < 65536) (hS : Sg ≤ 1024) (had : ba + ad < Sg) (h : mR g Sg (zmem, zreg, zmd, zpc, zba, zbo, zti, zro, zha, zou, zop, zwa, zty, zdk) (md, p + 2, ba, bo, ti, ro, false, rg, mm, dk, cs)) : ∃ B', f_MD_does (nI g) zmem zreg zmd zpc zba zbo zti zro zha zou zop zwa zty zdk (nI 4) (nI a) (nI b) (nI n) (nI ad) (nI p) = some B' ∧ mR g Sg B' (md, p + 2, ba, bo, ti, ro, false, mu rg a (mm (ba + ad)), mm, dk, cs) ∧ mF g (zmem, zreg, zmd, zpc, zba, zbo, zti, zro, zha, zou, zop, zwa, zty, zdk) B' := by
  obtain ⟨b1, b2, b3, b4, b5, b6, b7, b8, b9, b10, b11⟩ := h
  have ea := b2 a ha
  have eb := b2 b hb
  have la := hr a
  have lb := hr b
  have em := b1 (ba + ad) had
  refine ⟨(zmem, upd zreg (8 * g + a) (nI (mm (ba + ad))), zmd, zpc, zba, zbo, zti, zro, zha, zou, zop, zwa, zty, zdk), ?_, ⟨b1, wn_upd b2, b3, b4, b5, b6, b7, b8, b9, b10, b11⟩, ⟨fo_r, fo_u fo_r (by omega), fs_r, fs_r, fs_r, fs_r, fs_r, fs_r, fs_r, fs_r, fo_r, fs_r, fo_r, fo_r⟩⟩
  · unfold f_MD_does
    simp only [if_pos (cg hg), nI_clamp (show g < 2 ^ 31 by omega), x8, nI_add, if_pos ((ck_nI (n := 8 * g + a) (N := 24) (by omega)).mpr (by omega)), if_pos ((ck_nI (n := 8 * g + b) (N := 24) (by omega)).mpr (by omega)), nI_clamp (show 8 * g + a < 2 ^ 31 by omega), nI_clamp (show 8 * g + b < 2 ^ 31 by omega), ea, eb, if_neg (show ¬ nI 4 = (0 : Int32) by decide), if_neg (show ¬ nI 4 = (1 : Int32) by decide), if_neg (show ¬ nI 4 = (2 : Int32) by decide), if_neg (show ¬ nI 4 = (3 : Int32) by decide), if_pos (show nI 4 = (4 : Int32) by decide), m_get hg b5 (show ba + ad < 1024 by omega), Option.bind_some, em]
theorem m_does3 (hg : g < 3) (ha : a < 8) (hb : b < 8) (hn : n < 65536) (hr : ∀ j, rg j < 65536) (hS : Sg ≤ 1024) (had : ba + ad < Sg) (h : mR g Sg (zmem, zreg, zmd, zpc, zba, zbo, zti, zro, zha, zou, zop, zwa, zty, zdk) (md, p + 2, ba, bo, ti, ro, false, rg, mm, dk, cs)) : ∃ B', f_MD_does (nI g) zmem zreg zmd zpc zba zbo zti zro zha zou zop zwa zty zdk (nI 3) (nI a) (nI b) (nI n) (nI ad) (nI p) = some B' ∧ mR g Sg B' (md, p + 2, ba, bo, ti, ro, false, rg, mu mm (ba + ad) (rg a), dk, cs) ∧ mF g (zmem, zreg, zmd, zpc, zba, zbo, zti, zro, zha, zou, zop, zwa, zty, zdk) B' := by
  obtain ⟨b1, b2, b3, b4, b5, b6, b7, b8, b9, b10, b11⟩ := h
  have ea := b2 a ha
  have eb := b2 b hb
  have la := hr a
  have lb := hr b
  refine ⟨(upd zmem (1024 * g + (ba + ad)) (nI (rg a)), zreg, zmd, zpc, zba, zbo, zti, zro, zha, zou, zop, zwa, zty, zdk), ?_, ⟨wn_upd b1, b2, b3, b4, b5, b6, b7, b8, b9, b10, b11⟩, ⟨fo_u fo_r (by omega), fo_r, fs_r, fs_r, fs_r, fs_r, fs_r, fs_r, fs_r, fs_r, fo_r, fs_r, fo_r, fo_r⟩⟩
  · unfold f_MD_does
    simp only [if_pos (cg hg), nI_clamp (show g < 2 ^ 31 by omega), x8, nI_add, if_pos ((ck_nI (n := 8 * g + a) (N := 24) (by omega)).mpr (by omega)), if_pos ((ck_nI (n := 8 * g + b) (N := 24) (by omega)).mpr (by omega)), nI_clamp (show 8 * g + a < 2 ^ 31 by omega), nI_clamp (show 8 * g + b < 2 ^ 31 by omega), ea, eb, if_neg (show ¬ nI 3 = (0 : Int32) by decide), if_neg (show ¬ nI 3 = (1 : Int32) by decide), if_neg (show ¬ nI 3 = (2 : Int32) by decide), if_pos (show nI 3 = (3 : Int32) by decide), m_set hg b5 (show ba + ad < 1024 by omega), Option.bind_some]
theorem m_does5 (hg : g < 3) (ha : a < 8) (hb : b < 8) (hn : n < 65536) (hr : ∀ j, rg j < 65536) (hS : Sg ≤ 1024) (had : ba + ad < Sg) (h : mR g Sg (zmem, zreg, zmd, zpc, zba, zbo, zti, zro, zha, zou, zop, zwa, zty, zdk) (md, p + 2, ba, bo, ti, ro, false, rg, mm, dk, cs)) : ∃ B', f_MD_does (nI g) zmem zreg zmd zpc zba zbo zti zro zha zou zop zwa zty zdk (nI 5) (nI a) (nI b) (nI n) (nI ad) (nI p) = some B' ∧ mR g Sg B' (md, p + 2, ba, bo, ti, ro, false, rg, mu mm (ba + ad) (rg a), dk, cs) ∧ mF g (zmem, zreg, zmd, zpc, zba, zbo, zti, zro, zha, zou, zop, zwa, zty, zdk) B' := by
  obtain ⟨b1, b2, b3, b4, b5, b6, b7, b8, b9, b10, b11⟩ := h
  have ea := b2 a ha
  have eb := b2 b hb
  have la := hr a
  have lb := hr b
  refine ⟨(upd zmem (1024 * g + (ba + ad)) (nI (rg a)), zreg, zmd, zpc, zba, zbo, zti, zro, zha, zou, zop, zwa, zty, zdk), ?_, ⟨wn_upd b1, b2, b3, b4, b5, b6, b7, b8, b9, b10, b11⟩, ⟨fo_u fo_r (by omega), fo_r, fs_r, fs_r, fs_r, fs_r, fs_r, fs_r, fs_r, fs_r, fo_r, fs_r, fo_r, fo_r⟩⟩
  · unfold f_MD_does
    simp only [if_pos (cg hg), nI_clamp (show g < 2 ^ 31 by omega), x8, nI_add, if_pos ((ck_nI (n := 8 * g + a) (N := 24) (by omega)).mpr (by omega)), if_pos ((ck_nI (n := 8 * g + b) (N := 24) (by omega)).mpr (by omega)), nI_clamp (show 8 * g + a < 2 ^ 31 by omega), nI_clamp (show 8 * g + b < 2 ^ 31 by omega), ea, eb, if_neg (show ¬ nI 5 = (0 : Int32) by decide), if_neg (show ¬ nI 5 = (1 : Int32) by decide), if_neg (show ¬ nI 5 = (2 : Int32) by decide), if_neg (show ¬ nI 5 = (3 : Int32) by decide), if_neg (show ¬ nI 5 = (4 : Int32) by decide), if_pos (show nI 5 = (5 : Int32) by decide), m_set hg b5 (show ba + ad < 1024 by omega), Option.bind_some]
theorem m_does0 (hg : g < 3) (ha : a < 8) (hb : b < 8) (hn : n < 65536) (hr : ∀ j, rg j < 65536) (h : mR g Sg (zmem, zreg, zmd, zpc, zba, zbo, zti, zro, zha, zou, zop, zwa, zty, zdk) (0, p + 2, ba, bo, ti, ro, false, rg, mm, dk, cs)) : ∃ B', f_MD_does (nI g) zmem zreg zmd zpc zba zbo zti zro zha zou zop zwa zty zdk (nI 0) (nI a) (nI b) (nI n) fr (nI p) = some B' ∧ mR g Sg B' (0, p, ba, bo, ti, ro, true, rg, mm, dk, cs) ∧ mF g (zmem, zreg, zmd, zpc, zba, zbo, zti, zro, zha, zou, zop, zwa, zty, zdk) B' := by
  obtain ⟨b1, b2, b3, b4, b5, b6, b7, b8, b9, b10, b11⟩ := h
  have ea := b2 a ha
  have eb := b2 b hb
  have la := hr a
  have lb := hr b
  refine ⟨(zmem, zreg, zmd, upd zpc g (nI p), zba, zbo, zti, zro, upd zha g (bi true), zou, zop, zwa, zty, zdk), ?_, ⟨b1, b2, b3, pk_us, b5, b6, b7, b8, pk_us, b10, b11⟩, ⟨fo_r, fo_r, fs_r, fs_u fs_r, fs_r, fs_r, fs_r, fs_r, fs_u fs_r, fs_r, fo_r, fs_r, fo_r, fo_r⟩⟩
  · unfold f_MD_does
    simp only [if_pos (cg hg), nI_clamp (show g < 2 ^ 31 by omega), x8, nI_add, if_pos ((ck_nI (n := 8 * g + a) (N := 24) (by omega)).mpr (by omega)), if_pos ((ck_nI (n := 8 * g + b) (N := 24) (by omega)).mpr (by omega)), nI_clamp (show 8 * g + a < 2 ^ 31 by omega), nI_clamp (show 8 * g + b < 2 ^ 31 by omega), ea, eb, if_pos (show nI 0 = (0 : Int32) by decide), nar1]
end MMB
