/-! THE MODEL'S MACHINE: a step -/
section MMD
abbrev tA : Type := (Nat → Int32) × (Nat → Int32) × (Nat → Int32) × (Nat → Int32) × (Nat → Int32) × (Nat → Int32) × (Nat → Int32) × (Nat → Int32) × (Nat → Int32) × (Nat → Int32) × (Nat → Int32) × (Nat → Int32) × (Nat → Int32) × (Nat → Int32) × (Nat → Int32)
def bS (B : tB) (zst : Nat → Int32) : tA := match B with
  | (zmem, zreg, zmd, zpc, zba, zbo, zti, zro, zha, zou, zop, zwa, zty, zdk) => (zmem, zreg, zmd, zpc, zba, zbo, zti, zro, zha, zst, zou, zop, zwa, zty, zdk)
variable {g Sg md p ba bo ti a b n ad op w : Nat} {ro : Bool} {rg mm dk : Nat → Nat} {cs : mc_K} {x1 x3 x4 x5 x6 fr : Int32} {zsz zst zmem zreg zmd zpc zba zbo zti zro zha zou zop zwa zty zdk : Nat → Int32}
theorem m_alu (hg : g < 3) (ha : a < 8) (hb : b < 8) (hn : n < 65536) (hp : p + 2 < 65536) (hr : ∀ j, rg j < 65536) (hop : (op = 1 ∨ 6 ≤ op) ∧ op ≤ 15) (h : mR g Sg (zmem, zreg, zmd, zpc, zba, zbo, zti, zro, zha, zou, zop, zwa, zty, zdk) (md, p + 2, ba, bo, ti, ro, false, rg, mm, dk, cs)) : ∃ B', f_MD_does (nI g) zmem zreg zmd zpc zba zbo zti zro zha zou zop zwa zty zdk (nI op) (nI a) (nI b) (nI n) fr (nI p) = some B' ∧ mR g Sg B' (md, (mc_alu op a b n p rg).1, ba, bo, ti, ro, false, (mc_alu op a b n p rg).2, mm, dk, cs) ∧ mF g (zmem, zreg, zmd, zpc, zba, zbo, zti, zro, zha, zou, zop, zwa, zty, zdk) B' := by
  have e : op = 1 ∨ op = 6 ∨ op = 7 ∨ op = 8 ∨ op = 9 ∨ op = 10 ∨ op = 11 ∨ op = 12 ∨ op = 13 ∨ op = 14 ∨ op = 15 := by omega
  rcases e with rfl | rfl | rfl | rfl | rfl | rfl | rfl | rfl | rfl | rfl | rfl
  · exact m_does1 hg ha hb hn hr h
  · exact m_does6 hg ha hb hn hr h
  · exact m_does7 hg ha hb hn hr h
  · exact m_does8 hg ha hb hn hr h
  · exact m_does9 hg ha hb hn hr h
  · exact m_does10 hg ha hb hn hr h
  · exact m_does11 hg ha hb hn hr h
  · exact m_does12 hg ha hb hn hr h
  · exact m_does13 hg ha hb hn hr h
  · exact m_does14 hg ha hb hn hr h
  · exact m_does15 hg ha hb hn hp hr h
theorem m_acc (hg : g < 3) (ha : a < 8) (hb : b < 8) (hn : n < 65536) (hr : ∀ j, rg j < 65536) (hS : Sg ≤ 1024) (had : ba + ad < Sg) (hop : 2 ≤ op ∧ op ≤ 5) (h : mR g Sg (zmem, zreg, zmd, zpc, zba, zbo, zti, zro, zha, zou, zop, zwa, zty, zdk) (md, p + 2, ba, bo, ti, ro, false, rg, mm, dk, cs)) : ∃ B', f_MD_does (nI g) zmem zreg zmd zpc zba zbo zti zro zha zou zop zwa zty zdk (nI op) (nI a) (nI b) (nI n) (nI ad) (nI p) = some B' ∧ mR g Sg B' (md, p + 2, ba, bo, ti, ro, false, (if op = 2 ∨ op = 4 then mu rg a (mm (ba + ad)) else rg), (if op = 2 ∨ op = 4 then mm else mu mm (ba + ad) (rg a)), dk, cs) ∧ mF g (zmem, zreg, zmd, zpc, zba, zbo, zti, zro, zha, zou, zop, zwa, zty, zdk) B' := by
  have e : op = 2 ∨ op = 3 ∨ op = 4 ∨ op = 5 := by omega
  rcases e with rfl | rfl | rfl | rfl
  · exact m_does2 hg ha hb hn hr hS had h
  · exact m_does3 hg ha hb hn hr hS had h
  · exact m_does4 hg ha hb hn hr hS had h
  · exact m_does5 hg ha hb hn hr hS had h
theorem m_pv (hg : g < 3) (ha : a < 8) (hb : b < 8) (hn : n < 65536) (hr : ∀ j, rg j < 65536) (hm : ∀ j, mm j < 65536) (hS : Sg ≤ 1024) (hc : cs.2.2 < 2 ^ 30) (hop : (op = 0 ∨ 17 ≤ op) ∧ op ≤ 24) (ead : ad = mc_ad op b n rg) (had : 0 < mc_ct op → ba + ad + mc_ct op - 1 < Sg ∧ ad + mc_ct op - 1 < 65536) (h : mR g Sg (zmem, zreg, zmd, zpc, zba, zbo, zti, zro, zha, zou, zop, zwa, zty, zdk) (0, p + 2, ba, bo, ti, ro, false, rg, mm, dk, cs)) : ∃ B', f_MD_does (nI g) zmem zreg zmd zpc zba zbo zti zro zha zou zop zwa zty zdk (nI op) (nI a) (nI b) (nI n) (nI ad) (nI p) = some B' ∧ mR g Sg B' (mc_pv op a ad 0 p ba bo ti ro rg mm dk cs) ∧ mF g (zmem, zreg, zmd, zpc, zba, zbo, zti, zro, zha, zou, zop, zwa, zty, zdk) B' := by
  have e : op = 0 ∨ op = 17 ∨ op = 18 ∨ op = 19 ∨ op = 20 ∨ op = 21 ∨ op = 22 ∨ op = 23 ∨ op = 24 := by omega
  rcases e with rfl | rfl | rfl | rfl | rfl | rfl | rfl | rfl | rfl
  · exact m_does0 hg ha hb hn hr h
  · have q := had (by decide)
    have q4 : mc_ct 17 = 4 := rfl
    have q5 : mc_ad 17 b n rg = n := rfl
    rw [q4] at q
    rw [q5] at ead
    subst ead
    exact m_does17 hg ha hb hn hr hm hS (by omega) h
  · have q := had (by decide)
    have q4 : mc_ct 18 = 4 := rfl
    have q5 : mc_ad 18 b n rg = n := rfl
    rw [q4] at q
    rw [q5] at ead
    subst ead
    exact m_does18 hg ha hb hn hr hS (by omega) h
  · exact m_does19 hg ha hb hn hr h
  · exact m_does20 hg ha hb hn hr h
  · exact m_does21 hg ha hb hn hr h
  · exact m_does22 hg ha hb hn hr hc h
  · have q := had (by decide)
    have q4 : mc_ct 23 = 16 := rfl
    rw [q4] at q
    exact m_does23 hg ha hb hn hr hS (by omega) (by omega) h
  · have q := had (by decide)
    have q4 : mc_ct 24 = 16 := rfl
    rw [q4] at q
    exact m_does24 hg ha hb hn hr hS (by omega) (by omega) h
theorem m_320z {B' : tB} (hg : g < 3) (h : f_MD_does (nI g) zmem zreg zmd (upd zpc g ((x1 + 2) - (x1 + 2) / 65536 * 65536)) zba zbo zti zro zha zou zop zwa zty zdk x5 ((x3 / 8) - (x3 / 8) / 8 * 8) (x3 - x3 / 8 * 8) x4 x6 x1 = some B') : b_MD_step_320 (nI g) zmem zreg zmd zpc zba zbo zti zro zha zst zou zop zwa zty zdk x1 x3 x4 x5 x6 0 = some (bS B' zst) := by
  unfold b_MD_step_320
  simp only [if_pos (cg hg), nI_clamp (show g < 2 ^ 31 by omega)]
  rw [h]
  obtain ⟨ymem, yreg, ymd, ypc, yba, ybo, yti, yro, yha, you, yop, ywa, yty, ydk⟩ := B'
  rw [Option.bind_some]
  dsimp only
  rw [if_pos trivial]
  rfl
theorem m_320o {B' : tB} (hg : g < 3) (h1 : md = 1 ∧ 0 < ti) (ht : ti < 65536) (h : f_MD_does (nI g) zmem zreg zmd (upd zpc g ((x1 + 2) - (x1 + 2) / 65536 * 65536)) zba zbo zti zro zha zou zop zwa zty zdk x5 ((x3 / 8) - (x3 / 8) / 8 * 8) (x3 - x3 / 8 * 8) x4 x6 x1 = some B') (hm : mR g Sg B' (md, p, ba, bo, ti, ro, false, rg, mm, dk, cs)) : ∃ B'', b_MD_step_320 (nI g) zmem zreg zmd zpc zba zbo zti zro zha zst zou zop zwa zty zdk x1 x3 x4 x5 x6 1 = some (bS B'' zst) ∧ mR g Sg B'' (mc_go p md ba bo ti ro rg mm dk cs) ∧ mF g B' B'' := by
  obtain ⟨ymem, yreg, ymd, ypc, yba, ybo, yti, yro, yha, you, yop, ywa, yty, ydk⟩ := B'
  refine ⟨_, ?_, m_tick h1 hm, fo_r, fo_r, fs_r, fs_r, fs_r, fs_r, fs_u fs_r, fs_u fs_r, fs_r, fs_r, fo_r, fs_r, fo_r, fo_r⟩
  have b7 : yti g = nI ti := hm.2.2.2.2.2.2.1
  have et : nI ti - 1 = nI (ti - 1) := by
    obtain ⟨t, rfl⟩ : ∃ t, ti = t + 1 := ⟨ti - 1, by omega⟩
    exact nI_pred t
  unfold b_MD_step_320
  simp only [if_pos (cg hg), nI_clamp (show g < 2 ^ 31 by omega)]
  rw [h, Option.bind_some]
  dsimp only
  rw [if_neg (show ¬ (1 : Int32) = 0 by decide), pk_us, b7, et, ic (nIe_0 (by omega)), nar0, nar1]
  by_cases q : ti - 1 = 0
  · rw [if_pos q, show decide (ti = 1) = true from decide_eq_true (by omega)]
    rfl
  · rw [if_neg q, show decide (ti = 1) = false from decide_eq_false (by omega)]
    rfl
theorem m_q8 (hw : w < 65536) : nI w - nI w / 8 * 8 = nI (w % 8) := r8 (by omega)
theorem m_q88 (hw : w < 65536) : (nI w / 8) - (nI w / 8) / 8 * 8 = nI (w / 8 % 8) := by
  have e : nI w / 8 = nI (w / 8) := pk_div (d := 8) (by omega) (by decide) (by decide)
  rw [e]
  exact r8 (by omega)
/-- what is done, and the timer -/
theorem m_do {G1 : mc_S} (hg : g < 3) (hw : w < 65536) (hp : p + 2 < 65536) (hmd : md < 2) (ht : ti < 65536) (h : mR g Sg (zmem, zreg, zmd, zpc, zba, zbo, zti, zro, zha, zou, zop, zwa, zty, zdk) (md, p, ba, bo, ti, ro, false, rg, mm, dk, cs)) (hd : mR g Sg (zmem, zreg, zmd, upd zpc g (nI (p + 2)), zba, zbo, zti, zro, zha, zou, zop, zwa, zty, zdk) (md, p + 2, ba, bo, ti, ro, false, rg, mm, dk, cs) → ∃ B', f_MD_does (nI g) zmem zreg zmd (upd zpc g (nI (p + 2))) zba zbo zti zro zha zou zop zwa zty zdk (nI op) (nI (w / 8 % 8)) (nI (w % 8)) (nI n) (nI ad) (nI p) = some B' ∧ mR g Sg B' G1 ∧ mF g (zmem, zreg, zmd, upd zpc g (nI (p + 2)), zba, zbo, zti, zro, zha, zou, zop, zwa, zty, zdk) B') {G2 : mc_S} (h0 : ¬ (md = 1 ∧ 0 < ti) → G2 = G1) (h1 : md = 1 ∧ 0 < ti → ∃ nx rg' mm', G1 = (md, nx, ba, bo, ti, ro, false, rg', mm', dk, cs) ∧ G2 = mc_go nx md ba bo ti ro rg' mm' dk cs) : ∃ B', (if (zmd g) = (1 : Int32) then (if (zti g) ≤ (0 : Int32) then b_MD_step_317 (nI g) zmem zreg zmd zpc zba zbo zti zro zha zst zou zop zwa zty zdk (nI p) (nI w) (nI n) (nI op) (nI ad) else b_MD_step_320 (nI g) zmem zreg zmd zpc zba zbo zti zro zha zst zou zop zwa zty zdk (nI p) (nI w) (nI n) (nI op) (nI ad) 1) else b_MD_step_317 (nI g) zmem zreg zmd zpc zba zbo zti zro zha zst zou zop zwa zty zdk (nI p) (nI w) (nI n) (nI op) (nI ad)) = some (bS B' zst) ∧ mR g Sg B' G2 ∧ mF g (zmem, zreg, zmd, zpc, zba, zbo, zti, zro, zha, zou, zop, zwa, zty, zdk) B' := by
  have hh := h
  obtain ⟨b1, b2, b3, b4, b5, b6, b7, b8, b9, b10, b11⟩ := h
  obtain ⟨B', d1, d2, d3⟩ := hd ⟨b1, b2, b3, pk_us, b5, b6, b7, b8, b9, b10, b11⟩
  have fr0 : mF g (zmem, zreg, zmd, zpc, zba, zbo, zti, zro, zha, zou, zop, zwa, zty, zdk) (zmem, zreg, zmd, upd zpc g (nI (p + 2)), zba, zbo, zti, zro, zha, zou, zop, zwa, zty, zdk) := ⟨fo_r, fo_r, fs_r, fs_u fs_r, fs_r, fs_r, fs_r, fs_r, fs_r, fs_r, fo_r, fs_r, fo_r, fo_r⟩
  rw [← Nat.mod_eq_of_lt hp, ← r65 (show p + 2 < 2 ^ 31 by omega), ← nI_p2, ← m_q8 hw, ← m_q88 hw] at d1
  rw [b3, b7, ic (nIe_1 (by omega)), ic (nIm_0 (by omega))]
  unfold b_MD_step_317
  by_cases q : md = 1
  · rw [if_pos q]
    by_cases r : ti ≤ 0
    · rw [if_pos r]
      refine ⟨B', m_320z hg d1, ?_, mF_t fr0 d3⟩
      rw [h0 (by omega)]
      exact d2
    · rw [if_neg r]
      obtain ⟨nx, rg', mm', e1, e2⟩ := h1 (by omega)
      subst e1 e2
      obtain ⟨B'', f1, f2, f3⟩ := m_320o (zst := zst) hg (show md = 1 ∧ 0 < ti by omega) ht d1 d2
      exact ⟨B'', f1, f2, mF_t fr0 (mF_t d3 f3)⟩
  · rw [if_neg q]
    refine ⟨B', m_320z hg d1, ?_, mF_t fr0 d3⟩
    rw [h0 (by omega)]
    exact d2
theorem m_trp {c i k : Nat} {ro' : Bool} (hg : g < 3) (hS : 64 ≤ Sg) (hw : wfM Sg md p ba bo ti rg mm dk) (hc : c < 65536) (hi : i < 65536) (hk : k < 65536) (hro : (if c = 4 then false else ro) = ro') (h : mR g Sg (zmem, zreg, zmd, zpc, zba, zbo, zti, zro, zha, zou, zop, zwa, zty, zdk) (md, p, ba, bo, ti, ro, false, rg, mm, dk, cs)) : ∃ B', ((f_MD_trap (nI g) zmem zmd zpc zba zbo zro (nI c) (nI i) (nI k)).bind fun x => match x with | (ymem, ymd, ypc, yba, ybo, yro) => some (ymem, zreg, ymd, ypc, yba, ybo, zti, yro, zha, zst, zou, zop, zwa, zty, zdk)) = some (bS B' zst) ∧ mR g Sg B' (mc_trap c i k md ba bo ti ro' rg mm dk cs) ∧ mF g (zmem, zreg, zmd, zpc, zba, zbo, zti, zro, zha, zou, zop, zwa, zty, zdk) B' := by
  obtain ⟨h1, h2, h3, h4, h5, h6, h7, h8, h9⟩ := hw
  obtain ⟨ymem, ymd, ypc, yba, ybo, yro, e1, e2, e3⟩ := m_trap (c := c) (i := i) (k := k) hg hS hc (tm_lt h8 hc hi hk (by omega) h4 h5) h
  rw [hro] at e2
  refine ⟨_, ?_, e2, e3⟩
  rw [e1]
  rfl
def ct_ (op : Nat) : Nat := if 2 ≤ op ∧ op ≤ 5 then 1 else mc_ct op
theorem ct_16 : ct_ op ≤ 16 := by
  unfold ct_ mc_ct
  repeat' split
  all_goals omega
theorem m_246 (hg : g < 3) (hS : 64 ≤ Sg) (hS2 : Sg ≤ 1024) (hz : zsz g = nI Sg) (hwf : wfM Sg md p ba bo ti rg mm dk) (hw : w < 65536) (hn : n < 65536) (hop : w / 64 ≤ 24) (hpv : ¬ (md = 1 ∧ (w / 64 = 0 ∨ 17 ≤ w / 64))) (hgd : mc_gd Sg ba bo (p + 1)) (hc : cs.2.2 < 2 ^ 30) (had : ad = mc_ad (w / 64) (w % 8) n rg) (h : mR g Sg (zmem, zreg, zmd, zpc, zba, zbo, zti, zro, zha, zou, zop, zwa, zty, zdk) (md, p, ba, bo, ti, ro, false, rg, mm, dk, cs)) : ∃ B', b_MD_step_246 (nI g) zsz zmem zreg zmd zpc zba zbo zti zro zha zst zou zop zwa zty zdk (nI p) (nI w) (nI n) (nI (w / 64)) (nI ad) (nI (ct_ (w / 64))) = some (bS B' zst) ∧ mR g Sg B' (mc_ex Sg w n md p ba bo ti ro rg mm dk cs) ∧ mF g (zmem, zreg, zmd, zpc, zba, zbo, zti, zro, zha, zou, zop, zwa, zty, zdk) B' := by
  have hwf0 := hwf
  have hh := h
  obtain ⟨h1, h2, h3, h4, h5, h6, h7, h8, h9⟩ := hwf
  obtain ⟨b1, b2, b3, b4, b5, b6, b7, b8, b9, b10, b11⟩ := h
  have m1 : w / 8 % 8 < 8 := Nat.mod_lt _ (by decide)
  have m2 : w % 8 < 8 := Nat.mod_lt _ (by decide)
  have hp2 : p + 2 < 65536 := by have := hgd.1; omega
  have hadl : ad < 65536 := by
    rw [had]; unfold mc_ad; split
    · exact Nat.mod_lt _ (by decide)
    · exact hn
  have hrc : mc_rc Sg ba bo < 65536 := by unfold mc_rc; split <;> omega
  have eb := m_bad (ad := ad) (ct := ct_ (w / 64)) hg hz b5 b6 (by omega) h4 h5 ct_16 hadl
  unfold b_MD_step_246
  rw [eb, Option.bind_some]
  unfold mc_ex
  rw [if_neg (show ¬ 24 < w / 64 by omega), if_neg hpv, ← had]
  by_cases ox : w / 64 = 16
  · have ec : ct_ (w / 64) = 0 := by rw [ox]; rfl
    rw [if_neg (show ¬ (0 < ct_ (w / 64) ∧ _) by omega), if_neg (show ¬ (0 < ct_ (w / 64) ∧ _) by omega), if_pos (show (-1 : Int32) < 0 by decide), if_pos ((nIe_16 (by omega)).mpr ox), if_pos ox, nI_p2, r65 (by omega), Nat.mod_eq_of_lt hp2]
    exact m_trp (c := 3) (i := n) (k := p + 2) hg hS hwf0 (by omega) hn hp2 (if_neg (by decide)) hh
  · rw [if_neg ox]
    have ox' : ¬ nI (w / 64) = (16 : Int32) := fun q => ox ((nIe_16 (by omega)).mp q)
    by_cases oa : 2 ≤ w / 64 ∧ w / 64 ≤ 5
    · have ec : ct_ (w / 64) = 1 := if_pos oa
      rw [if_pos oa, ec, Nat.add_sub_cancel]
      by_cases gd : mc_gd Sg ba bo ad
      · rw [if_neg (show ¬ (0 < 1 ∧ ¬ mc_gd Sg ba bo ad) from fun q => q.2 gd), if_neg (show ¬ (0 < 1 ∧ ¬ mc_gd Sg ba bo ad) from fun q => q.2 gd), if_pos (show (-1 : Int32) < 0 by decide), if_neg ox', if_pos gd, if_pos (cg hg), if_pos (cg hg), nI_clamp (show g < 2 ^ 31 by omega)]
        refine m_do hg hw hp2 h2 h6 hh (fun h' => m_acc hg m1 m2 hn h7 hS2 gd.2 oa h') (fun q => ?_) (fun q => ?_)
        · by_cases o2 : w / 64 = 2 ∨ w / 64 = 4
          · rw [if_pos o2, if_pos o2, if_pos o2]; unfold mc_go; rw [if_neg q]
          · rw [if_neg o2, if_neg o2, if_neg o2]; unfold mc_go; rw [if_neg q]
        · refine ⟨p + 2, _, _, rfl, ?_⟩
          by_cases o2 : w / 64 = 2 ∨ w / 64 = 4
          · rw [if_pos o2, if_pos o2, if_pos o2]
          · rw [if_neg o2, if_neg o2, if_neg o2]
      · rw [if_pos (show 0 < 1 ∧ ¬ mc_gd Sg ba bo ad from ⟨by omega, gd⟩), if_neg (nI_pos (by omega)), if_neg gd]
        exact m_trp (c := 2) (i := ad) (k := p) hg hS hwf0 (by omega) hadl h3 (if_neg (by decide)) hh
    · rw [if_neg oa]
      have ec : ct_ (w / 64) = mc_ct (w / 64) := if_neg oa
      rw [ec]
      by_cases ob : 1 ≤ w / 64 ∧ w / 64 ≤ 15
      · have e0 : mc_ct (w / 64) = 0 := by unfold mc_ct; rw [if_neg (by omega), if_pos (by omega)]
        rw [if_pos ob, e0, if_neg (show ¬ (0 < 0 ∧ ¬ mc_gd Sg ba bo ad) by omega), if_neg (show ¬ (0 < 0 ∧ ¬ mc_gd Sg ba bo (ad + 0 - 1)) by omega), if_pos (show (-1 : Int32) < 0 by decide), if_neg ox', if_pos (cg hg), if_pos (cg hg), nI_clamp (show g < 2 ^ 31 by omega)]
        refine m_do hg hw hp2 h2 h6 hh (fun h' => m_alu hg m1 m2 hn hp2 h7 (by omega) h') (fun q => ?_) (fun q => ?_)
        · unfold mc_go; rw [if_neg q]
        · exact ⟨_, _, _, rfl, rfl⟩
      · rw [if_neg ob]
        by_cases g1 : 0 < mc_ct (w / 64) ∧ ¬ mc_gd Sg ba bo ad
        · rw [if_pos g1, if_pos g1, if_neg (nI_pos (by omega))]
          exact m_trp (c := 2) (i := ad) (k := p) hg hS hwf0 (by omega) hadl h3 (if_neg (by decide)) hh
        · rw [if_neg g1, if_neg g1]
          by_cases g2 : 0 < mc_ct (w / 64) ∧ ¬ mc_gd Sg ba bo (ad + mc_ct (w / 64) - 1)
          · rw [if_pos g2, if_pos g2, if_neg (nI_pos (by omega))]
            exact m_trp (c := 2) (i := mc_rc Sg ba bo) (k := p) hg hS hwf0 (by omega) hrc h3 (if_neg (by decide)) hh
          · have hmd : md = 0 := by omega
            subst hmd
            rw [if_neg g2, if_neg g2, if_pos (show (-1 : Int32) < 0 by decide), if_neg ox', if_pos (cg hg), if_pos (cg hg), nI_clamp (show g < 2 ^ 31 by omega)]
            refine m_do hg hw hp2 h2 h6 hh (fun h' => m_pv hg m1 m2 hn h7 h8 hS2 hc (by omega) had (fun z => ?_) h') (fun q => rfl) (fun q => by omega)
            have g3 : mc_gd Sg ba bo (ad + mc_ct (w / 64) - 1) := Classical.not_not.mp fun y => g2 ⟨z, y⟩
            have := g3.1
            have := g3.2
            omega
theorem m_147 (hg : g < 3) (hw : w < 65536) (hn : n < 65536) (hop : w / 64 ≤ 24) (hr : ∀ j, rg j < 65536) (b2 : wn 8 g 8 zreg rg) : b_MD_step_147 (nI g) zsz zmem zreg zmd zpc zba zbo zti zro zha zst zou zop zwa zty zdk (nI p) (nI w) (nI n) (nI (w / 64)) = b_MD_step_246 (nI g) zsz zmem zreg zmd zpc zba zbo zti zro zha zst zou zop zwa zty zdk (nI p) (nI w) (nI n) (nI (w / 64)) (nI (mc_ad (w / 64) (w % 8) n rg)) (nI (ct_ (w / 64))) := by
  have m2 : w % 8 < 8 := Nat.mod_lt _ (by decide)
  have e2 := b2 (w % 8) m2
  have l2 := hr (w % 8)
  unfold b_MD_step_147 b_MD_step_166 b_MD_step_196 b_MD_step_213 b_MD_step_227
  rw [m_q8 hw, x8, nI_add, if_pos ((ck_nI (by omega)).mpr (by omega)), nI_clamp (by omega), e2, nI_add, r65 (by omega)]
  have E : ∀ x : Int32, (if nI (w / 64) ≤ (1 : Int32) then (if nI (w / 64) = (17 : Int32) then b_MD_step_246 (nI g) zsz zmem zreg zmd zpc zba zbo zti zro zha zst zou zop zwa zty zdk (nI p) (nI w) (nI n) (nI (w / 64)) x 4 else (if nI (w / 64) = (18 : Int32) then b_MD_step_246 (nI g) zsz zmem zreg zmd zpc zba zbo zti zro zha zst zou zop zwa zty zdk (nI p) (nI w) (nI n) (nI (w / 64)) x 4 else (if nI (w / 64) ≤ (22 : Int32) then b_MD_step_246 (nI g) zsz zmem zreg zmd zpc zba zbo zti zro zha zst zou zop zwa zty zdk (nI p) (nI w) (nI n) (nI (w / 64)) x 0 else b_MD_step_246 (nI g) zsz zmem zreg zmd zpc zba zbo zti zro zha zst zou zop zwa zty zdk (nI p) (nI w) (nI n) (nI (w / 64)) x 16))) else (if (6 : Int32) ≤ nI (w / 64) then (if nI (w / 64) = (17 : Int32) then b_MD_step_246 (nI g) zsz zmem zreg zmd zpc zba zbo zti zro zha zst zou zop zwa zty zdk (nI p) (nI w) (nI n) (nI (w / 64)) x 4 else (if nI (w / 64) = (18 : Int32) then b_MD_step_246 (nI g) zsz zmem zreg zmd zpc zba zbo zti zro zha zst zou zop zwa zty zdk (nI p) (nI w) (nI n) (nI (w / 64)) x 4 else (if nI (w / 64) ≤ (22 : Int32) then b_MD_step_246 (nI g) zsz zmem zreg zmd zpc zba zbo zti zro zha zst zou zop zwa zty zdk (nI p) (nI w) (nI n) (nI (w / 64)) x 0 else b_MD_step_246 (nI g) zsz zmem zreg zmd zpc zba zbo zti zro zha zst zou zop zwa zty zdk (nI p) (nI w) (nI n) (nI (w / 64)) x 16))) else b_MD_step_246 (nI g) zsz zmem zreg zmd zpc zba zbo zti zro zha zst zou zop zwa zty zdk (nI p) (nI w) (nI n) (nI (w / 64)) x 1)) = b_MD_step_246 (nI g) zsz zmem zreg zmd zpc zba zbo zti zro zha zst zou zop zwa zty zdk (nI p) (nI w) (nI n) (nI (w / 64)) x (nI (ct_ (w / 64))) := by
    intro x
    rw [ic (nIm_1 (by omega)), ic (nIn_6 (by omega)), ic (nIe_17 (by omega)), ic (nIe_18 (by omega)), ic (nIm_22 (by omega))]
    have n0 : nI 0 = (0 : Int32) := rfl
    have n1 : nI 1 = (1 : Int32) := rfl
    have n4 : nI 4 = (4 : Int32) := rfl
    have n16 : nI 16 = (16 : Int32) := rfl
    unfold ct_ mc_ct
    generalize w / 64 = o at *
    by_cases o1 : 2 ≤ o ∧ o ≤ 5
    · rw [if_neg (show ¬ o ≤ 1 by omega), if_neg (show ¬ 6 ≤ o by omega), if_pos o1, n1]
    · have K : (if o = 17 then b_MD_step_246 (nI g) zsz zmem zreg zmd zpc zba zbo zti zro zha zst zou zop zwa zty zdk (nI p) (nI w) (nI n) (nI o) x 4 else (if o = 18 then b_MD_step_246 (nI g) zsz zmem zreg zmd zpc zba zbo zti zro zha zst zou zop zwa zty zdk (nI p) (nI w) (nI n) (nI o) x 4 else (if o ≤ 22 then b_MD_step_246 (nI g) zsz zmem zreg zmd zpc zba zbo zti zro zha zst zou zop zwa zty zdk (nI p) (nI w) (nI n) (nI o) x 0 else b_MD_step_246 (nI g) zsz zmem zreg zmd zpc zba zbo zti zro zha zst zou zop zwa zty zdk (nI p) (nI w) (nI n) (nI o) x 16))) = b_MD_step_246 (nI g) zsz zmem zreg zmd zpc zba zbo zti zro zha zst zou zop zwa zty zdk (nI p) (nI w) (nI n) (nI o) x (nI (if o = 17 ∨ o = 18 then 4 else if o < 23 then 0 else 16)) := by
        by_cases a1 : o = 17
        · rw [if_pos a1, if_pos (Or.inl a1), n4]
        · by_cases a2 : o = 18
          · rw [if_neg a1, if_pos a2, if_pos (Or.inr a2), n4]
          · rw [if_neg a1, if_neg a2, if_neg (show ¬ (o = 17 ∨ o = 18) by omega)]
            by_cases a3 : o ≤ 22
            · rw [if_pos a3, if_pos (show o < 23 by omega), n0]
            · rw [if_neg a3, if_neg (show ¬ o < 23 by omega), n16]
      rw [if_neg o1, K]
      by_cases o2 : o ≤ 1
      · rw [if_pos o2]
      · rw [if_neg o2, if_pos (show 6 ≤ o by omega)]
  rw [E, E, ic (nIe_4 (by omega)), ic (nIe_5 (by omega)), ic (nIm_22 (by omega))]
  unfold mc_ad
  by_cases o4 : w / 64 = 4
  · rw [if_pos o4, if_pos (show w / 64 = 4 ∨ w / 64 = 5 ∨ 23 ≤ w / 64 by omega)]
  · rw [if_neg o4]
    by_cases o5 : w / 64 = 5
    · rw [if_pos o5, if_pos (show w / 64 = 4 ∨ w / 64 = 5 ∨ 23 ≤ w / 64 by omega)]
    · rw [if_neg o5]
      by_cases o22 : w / 64 ≤ 22
      · rw [if_pos o22, if_neg (show ¬ (w / 64 = 4 ∨ w / 64 = 5 ∨ 23 ≤ w / 64) by omega)]
      · rw [if_neg o22, if_pos (show w / 64 = 4 ∨ w / 64 = 5 ∨ 23 ≤ w / 64 by omega)]
theorem m_56 (hg : g < 3) (hS : 64 ≤ Sg) (hS2 : Sg ≤ 1024) (hz : zsz g = nI Sg) (hwf : wfM Sg md p ba bo ti rg mm dk) (hro : md = 1 → ro = false) (hc : cs.2.2 < 2 ^ 30) (h : mR g Sg (zmem, zreg, zmd, zpc, zba, zbo, zti, zro, zha, zou, zop, zwa, zty, zdk) (md, p, ba, bo, ti, ro, false, rg, mm, dk, cs)) : ∃ B', b_MD_step_56 (nI g) zsz zmem zreg zmd zpc zba zbo zti zro zha zst zou zop zwa zty zdk (nI p) = some (bS B' zst) ∧ mR g Sg B' (mc_st Sg md p ba bo ti ro rg mm dk cs) ∧ mF g (zmem, zreg, zmd, zpc, zba, zbo, zti, zro, zha, zou, zop, zwa, zty, zdk) B' := by
  have hwf0 := hwf
  have hh := h
  obtain ⟨h1, h2, h3, h4, h5, h6, h7, h8, h9⟩ := hwf
  obtain ⟨b1, b2, b3, b4, b5, b6, b7, b8, b9, b10, b11⟩ := h
  have t4 : ¬ (md = 1 ∧ ro = true) := fun q => by have := hro q.1; rw [q.2] at this; cases this
  have eb := m_bad (ad := p) (ct := 2) hg hz b5 b6 (by omega) h4 h5 (by omega) h3
  rw [show nI 2 = (2 : Int32) from rfl] at eb
  unfold b_MD_step_56 mc_st
  rw [eb, Option.bind_some, if_neg t4]
  by_cases g0 : mc_gd Sg ba bo p
  · rw [if_neg (show ¬ (0 < 2 ∧ ¬ mc_gd Sg ba bo p) from fun q => q.2 g0), if_neg (show ¬ ¬ mc_gd Sg ba bo p from fun q => q g0), show p + 2 - 1 = p + 1 from rfl]
    by_cases g1 : mc_gd Sg ba bo (p + 1)
    · rw [if_neg (show ¬ (0 < 2 ∧ ¬ mc_gd Sg ba bo (p + 1)) from fun q => q.2 g1), if_neg (show ¬ ¬ mc_gd Sg ba bo (p + 1) from fun q => q g1), if_pos (show (-1 : Int32) < 0 by decide)]
      have k1 := g1.1
      have k2 := g1.2
      have e1 := b1 (ba + p) (by omega)
      have e2 := b1 (ba + p + 1) (by omega)
      rw [m_get hg b5 (by omega), Option.bind_some, nI_1, r65 (by omega), Nat.mod_eq_of_lt (by omega), m_get hg b5 (by omega), Option.bind_some, e1, ← Nat.add_assoc ba, e2]
      have hw := h8 (ba + p)
      have hn := h8 (ba + p + 1)
      generalize mm (ba + p) = w at *
      generalize mm (ba + p + 1) = n at *
      have ed : nI w / 64 = nI (w / 64) := pk_div (d := 64) (by omega) (by decide) (by decide)
      rw [ed, ic (nIm_24 (by omega)), ic (nIm_16 (by omega)), ic (nIe_0 (by omega)), if_pos (cg hg), nI_clamp (show g < 2 ^ 31 by omega), b3, ic (nIe_1 (by omega))]
      by_cases o24 : 24 < w / 64
      · rw [if_neg (show ¬ w / 64 ≤ 24 by omega)]
        have ex : mc_ex Sg w n md p ba bo ti ro rg mm dk cs = mc_trap 5 w p md ba bo ti ro rg mm dk cs := if_pos o24
        rw [ex]
        exact m_trp (c := 5) (i := w) (k := p) hg hS hwf0 (by omega) hw h3 (if_neg (by decide)) hh
      · rw [if_pos (show w / 64 ≤ 24 by omega)]
        by_cases pv : md = 1 ∧ (w / 64 = 0 ∨ 17 ≤ w / 64)
        · have ex : mc_ex Sg w n md p ba bo ti ro rg mm dk cs = mc_trap 1 w p md ba bo ti ro rg mm dk cs := by
            unfold mc_ex; rw [if_neg o24, if_pos pv]
          have T := m_trp (zst := zst) (c := 1) (i := w) (k := p) hg hS hwf0 (by omega) hw h3 (if_neg (by decide)) hh
          rw [ex, if_pos pv.1]
          by_cases z0 : w / 64 = 0
          · rw [if_pos z0]; exact T
          · rw [if_neg z0, if_neg (show ¬ w / 64 ≤ 16 by omega)]; exact T
        · have T := m_246 (zsz := zsz) (zst := zst) hg hS hS2 hz hwf0 hw hn (by omega) pv g1 hc rfl hh
          rw [← m_147 hg hw hn (by omega) h7 b2] at T
          by_cases q : md = 1
          · rw [if_pos q, if_neg (show ¬ w / 64 = 0 by omega), if_pos (show w / 64 ≤ 16 by omega)]
            exact T
          · rw [if_neg q]
            exact T
    · have er : mc_rc Sg ba bo = p + 1 := by unfold mc_rc mc_gd at *; split <;> omega
      have k1 := g0.1
      rw [if_pos (show 0 < 2 ∧ ¬ mc_gd Sg ba bo (p + 1) from ⟨by omega, g1⟩), if_pos g1, er, if_neg (nI_pos (by omega))]
      exact m_trp (c := 2) (i := p + 1) (k := p) hg hS hwf0 (by omega) (by omega) h3 (if_neg (by decide)) hh
  · rw [if_pos (show 0 < 2 ∧ ¬ mc_gd Sg ba bo p from ⟨by omega, g0⟩), if_pos g0, if_neg (nI_pos (by omega))]
    exact m_trp (c := 2) (i := p) (k := p) hg hS hwf0 (by omega) h3 h3 (if_neg (by decide)) hh
/-- A STEP of the Model's machine is one of the document's -/
theorem m_step {st : Nat} {B : tB} {G : mc_S} (hg : g < 3) (hS : 64 ≤ Sg) (hS2 : Sg ≤ 1024) (hz : zsz g = nI Sg) (hwf : wfs Sg G) (ha : s_ha G = false) (hc : (s_cs G).2.2 < 2 ^ 30) (hst : zst g = nI st) (h : mR g Sg B G) : ∃ B', (match B with | (zmem, zreg, zmd, zpc, zba, zbo, zti, zro, zha, zou, zop, zwa, zty, zdk) => f_MD_step (nI g) zsz zmem zreg zmd zpc zba zbo zti zro zha zst zou zop zwa zty zdk) = some (bS B' (upd zst g (nI (st + 1)))) ∧ mR g Sg B' (mc_step Sg G) ∧ mF g B B' := by
  obtain ⟨zmem, zreg, zmd, zpc, zba, zbo, zti, zro, zha, zou, zop, zwa, zty, zdk⟩ := B
  obtain ⟨md, p, ba, bo, ti, ro, ha', rg, mm, dk, cs⟩ := G
  have ha2 : ha' = false := ha
  subst ha2
  have hc2 : cs.2.2 < 2 ^ 30 := hc
  have hh := h
  obtain ⟨b1, b2, b3, b4, b5, b6, b7, b8, b9, b10, b11⟩ := h
  obtain ⟨hwf, hro, -⟩ := hwf
  have h2 := hwf.2.1
  show ∃ B', f_MD_step (nI g) zsz zmem zreg zmd zpc zba zbo zti zro zha zst zou zop zwa zty zdk = some (bS B' (upd zst g (nI (st + 1)))) ∧ mR g Sg B' (mc_st Sg md p ba bo ti ro rg mm dk cs) ∧ _
  unfold f_MD_step
  simp only [if_pos (cg hg), nI_clamp (show g < 2 ^ 31 by omega), b3, b4, hst, nI_1, b8]
  rw [ic (nIe_1 (by omega))]
  by_cases q : md = 1
  · rw [if_pos q]
    cases ro with
    | false =>
      rw [if_pos (show bi false = (0 : Int32) from rfl)]
      exact m_56 hg hS hS2 hz hwf (fun _ => rfl) hc2 hh
    | true =>
      rw [if_neg (show ¬ bi true = (0 : Int32) by decide)]
      have e : mc_st Sg md p ba bo ti true rg mm dk cs = mc_trap 4 0 p md ba bo ti false rg mm dk cs := if_pos ⟨q, rfl⟩
      rw [e]
      exact m_trp (c := 4) (i := 0) (k := p) hg hS hwf (by omega) (by omega) hwf.2.2.1 (if_pos rfl) hh
  · rw [if_neg q]
    exact m_56 hg hS hS2 hz hwf (fun z => absurd z q) hc2 hh
end MMD
