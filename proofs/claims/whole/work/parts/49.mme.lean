/-! THE MODEL: run, begin, and what is told -/
section MME
variable {g Sg d st : Nat} {zth zsz zdp zst zmem zreg zmd zpc zba zbo zti zro zha zou zop zwa zty zdk zmade : Nat → Int32}
theorem rn_wf : ∀ (n : Nat) (s : mc_S), wfs Sg s → wfs Sg (mc_rn Sg n s).2 := by
  intro n
  induction n with
  | zero => intro s h; exact h
  | succ n ih =>
    intro s h
    unfold mc_rn
    split
    · exact h
    · exact ih _ (wf_step h)
def ruS (n g : Nat) (zsz : Nat → Int32) (B : tB) (zst : Nat → Int32) (w i : Nat) : Option (Int32 × Int32 × tA) := match B with
  | (zmem, zreg, zmd, zpc, zba, zbo, zti, zro, zha, zou, zop, zwa, zty, zdk) => b_MD_run_28 n (nI g) zsz zmem zreg zmd zpc zba zbo zti zro zha zst zou zop zwa zty zdk (nI g) (nI w) (nI i)
theorem m_runl (hg : g < 3) (hS : 64 ≤ Sg) (hS2 : Sg ≤ 1024) (hz : zsz g = nI Sg) : ∀ (j n i st : Nat) (B : tB) (zst : Nat → Int32) (G : mc_S), mR g Sg B G → wfs Sg G → (s_cs G).2.2 + j < 2 ^ 29 → zst g = nI st → i + j ≤ 5000 → j < n → ∃ (B' : tB) (zst' : Nat → Int32), ruS n g zsz B zst (i + j) i = some (nI (i + (mc_rn Sg j G).1), nI g, bS B' zst') ∧ mR g Sg B' (mc_rn Sg j G).2 ∧ mF g B B' ∧ zst' g = nI (st + (mc_rn Sg j G).1) ∧ fs g zst zst' := by
  intro j
  induction j with
  | zero =>
    intro n i st B zst G h hwf hc hst hi hn
    obtain ⟨n, rfl⟩ : ∃ m, n = m + 1 := ⟨n - 1, by omega⟩
    refine ⟨B, zst, ?_, h, mF_r, hst, fs_r⟩
    obtain ⟨zmem, zreg, zmd, zpc, zba, zbo, zti, zro, zha, zou, zop, zwa, zty, zdk⟩ := B
    show b_MD_run_28 (n + 1) (nI g) zsz zmem zreg zmd zpc zba zbo zti zro zha zst zou zop zwa zty zdk (nI g) (nI (i + 0)) (nI i) = _
    rw [b_MD_run_28, if_pos (show nI (i + 0) ≤ nI i from (nI_leI (by omega) (by omega)).mpr (by omega))]
    rfl
  | succ j ih =>
    intro n i st B zst G h hwf hc hst hi hn
    obtain ⟨n, rfl⟩ : ∃ m, n = m + 1 := ⟨n - 1, by omega⟩
    by_cases hh : s_ha G = true
    · have e : mc_rn Sg (j + 1) G = (0, G) := by unfold mc_rn; rw [if_pos hh]
      rw [e]
      refine ⟨B, zst, ?_, h, mF_r, hst, fs_r⟩
      obtain ⟨zmem, zreg, zmd, zpc, zba, zbo, zti, zro, zha, zou, zop, zwa, zty, zdk⟩ := B
      obtain ⟨md, p, ba, bo, ti, ro, ha, rg, mm, dk, cs⟩ := G
      have b9 : zha g = bi ha := h.2.2.2.2.2.2.2.2.1
      have hh' : ha = true := hh
      rw [hh'] at b9
      show b_MD_run_28 (n + 1) (nI g) zsz zmem zreg zmd zpc zba zbo zti zro zha zst zou zop zwa zty zdk (nI g) (nI (i + (j + 1))) (nI i) = _
      rw [b_MD_run_28, if_neg (show ¬ nI (i + (j + 1)) ≤ nI i from fun z => by have := (nI_leI (by omega) (by omega)).mp z; omega), if_pos (cg hg), nI_clamp (by omega), b9, if_neg (show ¬ bi true = (0 : Int32) by decide)]
      rfl
    · have hf : s_ha G = false := by simpa using hh
      have e : mc_rn Sg (j + 1) G = ((mc_rn Sg j (mc_step Sg G)).1 + 1, (mc_rn Sg j (mc_step Sg G)).2) := by
        show (if s_ha G = true then _ else _) = _
        rw [if_neg hh]
      rw [e]
      have hcn := cn_step (S := Sg) (s := G)
      obtain ⟨B1, e1, e2, e3⟩ := m_step hg hS hS2 hz hwf hf (by omega) hst h
      obtain ⟨B2, zst2, f1, f2, f3, f4, f5⟩ := ih n (i + 1) (st + 1) B1 (upd zst g (nI (st + 1))) (mc_step Sg G) e2 (wf_step hwf) (by omega) pk_us (by omega) (by omega)
      refine ⟨B2, zst2, ?_, f2, mF_t e3 f3, ?_, fs_t (fs_u fs_r) f5⟩
      · obtain ⟨zmem, zreg, zmd, zpc, zba, zbo, zti, zro, zha, zou, zop, zwa, zty, zdk⟩ := B
        obtain ⟨md, p, ba, bo, ti, ro, ha, rg, mm, dk, cs⟩ := G
        have b9 : zha g = bi ha := h.2.2.2.2.2.2.2.2.1
        have hf' : ha = false := hf
        rw [hf'] at b9
        have ei : i + ((mc_rn Sg j (mc_step Sg (md, p, ba, bo, ti, ro, ha, rg, mm, dk, cs))).1 + 1) = i + 1 + (mc_rn Sg j (mc_step Sg (md, p, ba, bo, ti, ro, ha, rg, mm, dk, cs))).1 := by omega
        have ej : i + (j + 1) = i + 1 + j := by omega
        show ruS (n + 1) g zsz _ zst (i + (j + 1)) i = some (nI (i + ((mc_rn Sg j (mc_step Sg (md, p, ba, bo, ti, ro, ha, rg, mm, dk, cs))).1 + 1)), _)
        rw [ei, ej, ← f1]
        show b_MD_run_28 (n + 1) (nI g) zsz zmem zreg zmd zpc zba zbo zti zro zha zst zou zop zwa zty zdk (nI g) (nI (i + 1 + j)) (nI i) = _
        have e1' : f_MD_step (nI g) zsz zmem zreg zmd zpc zba zbo zti zro zha zst zou zop zwa zty zdk = some (bS B1 (upd zst g (nI (st + 1)))) := e1
        rw [b_MD_run_28, if_neg (show ¬ nI (i + 1 + j) ≤ nI i from fun z => by have := (nI_leI (by omega) (by omega)).mp z; omega), if_pos (cg hg), nI_clamp (by omega), b9, if_pos (show bi false = (0 : Int32) from rfl), e1', Option.bind_some]
        obtain ⟨ymem, yreg, ymd, ypc, yba, ybo, yti, yro, yha, you, yop, ywa, yty, ydk⟩ := B1
        show b_MD_run_28 n _ _ _ _ _ _ _ _ _ _ _ _ _ _ _ _ _ _ _ (nI i + 1) = _
        rw [nI_1]
        rfl
      · rw [f4]
        congr 1
        show _ = st + ((mc_rn Sg j (mc_step Sg G)).1 + 1)
        omega
theorem nIg_k {k a : Nat} {x : Int32} (hk : k < 2 ^ 31) (ha : a < 2 ^ 31) (e : x = nI k) : x < nI a ↔ k < a := by
  rw [e]
  exact nI_ltI hk ha
theorem nIn_128 {a : Nat} (h : a < 2 ^ 31) : (128 : Int32) ≤ nI a ↔ 128 ≤ a := nI_leI (a := 128) (by decide) h
theorem bi_if2 (b : Bool) : (if bi b = (0 : Int32) then (0 : Int32) else 1) = bi b := by
  cases b <;> rfl
theorem m_in {a b : Nat} {p : Int32} (ha : a < 2 ^ 31) (hb : b < 2 ^ 31) : f_MD_in p (nI a) (nI b) = some (if p < nI a then 0 else if nI b < p then 0 else 1) := by
  unfold f_MD_in
  simp only [apply_ite some]
theorem in1 {a b : Int32} {p : Int32} (h1 : ¬ p < a) (h2 : ¬ b < p) : f_MD_in p a b = some 1 := by
  unfold f_MD_in
  rw [if_neg h1, if_neg h2]
theorem in0 {a b : Int32} {p : Int32} (h : p < a ∨ b < p) : f_MD_in p a b = some 0 := by
  unfold f_MD_in
  by_cases h1 : p < a
  · rw [if_pos h1]
  · rw [if_neg h1, if_pos (h.resolve_left h1)]
/-- there is such a guest -/
theorem m_is (hg : g < 3) (h : zth g = bi true) : f_MD_isGuest zth (nI g) = some 1 := by
  unfold f_MD_isGuest
  rw [in1 (fun q => nI_pos (by omega) q) (fun q => by have := (nI_ltI (a := 2) (by decide) (by omega)).mp q; omega), Option.bind_some, if_neg (by decide), if_pos (cg hg), nI_clamp (by omega), h, if_neg (by decide)]
/-- there is none -/
theorem m_no (hg : g < 3) (h : zth g = bi false) : f_MD_isGuest zth (nI g) = some 0 := by
  unfold f_MD_isGuest
  rw [in1 (fun q => nI_pos (by omega) q) (fun q => by have := (nI_ltI (a := 2) (by decide) (by omega)).mp q; omega), Option.bind_some, if_neg (by decide), if_pos (cg hg), nI_clamp (by omega), h, if_pos (show bi false = (0 : Int32) from rfl)]
theorem m_no2 {p : Int32} (h : p < 0 ∨ 2 < p) : f_MD_isGuest zth p = some 0 := by
  unfold f_MD_isGuest
  rw [in0 h, Option.bind_some, if_pos rfl]
theorem m_look {md pc ba bo ti : Nat} {ro ha : Bool} {rg mm dk : Nat → Nat} {cs : mc_K} {p q : Int32} (hg : g < 3) (ht : zth g = bi true) (hz : zsz g = nI Sg) (hd : zdp g = nI d) (hs : zst g = nI st) (h : mR g Sg (zmem, zreg, zmd, zpc, zba, zbo, zti, zro, zha, zou, zop, zwa, zty, zdk) (md, pc, ba, bo, ti, ro, ha, rg, mm, dk, cs)) : f_MD_look zth zsz zdp zreg zmd zpc zba zbo zti zro zha zst zou zwa (nI g) p = some (t_look Sg d (nI st) (md, pc, ba, bo, ti, ro, ha, rg, mm, dk, cs) p) := by
  obtain ⟨b1, b2, b3, b4, b5, b6, b7, b8, b9, ⟨c1, c2, c3, c4, c5⟩, b11⟩ := h
  have er : ((f_MD_in p 20 27).bind fun r_29 => (if r_29 = (0 : Int32) then (some (-1)) else (if ck (((8 * nI g) + p) - 20) 24 then (some (zreg (((8 * nI g) + p) - 20).toNatClampNeg)) else none))) = some (t_rg rg p) := by
    unfold t_rg
    by_cases h1 : p < 20
    · rw [in0 (Or.inl h1), if_pos h1, Option.bind_some, if_pos rfl]
    by_cases h2 : 27 < p
    · rw [in0 (Or.inr h2), if_neg h1, if_pos h2, Option.bind_some, if_pos rfl]
    rw [in1 h1 h2, if_neg h1, if_neg h2, Option.bind_some, if_neg (by decide)]
    rcases i32_c p with h | ⟨n, hn, rfl⟩
    · exfalso
      apply h1
      rw [Int32.lt_iff_toInt_lt] at h ⊢
      have e1 : (0 : Int32).toInt = 0 := by decide
      have e2 : (20 : Int32).toInt = 20 := by decide
      omega
    · have k1 : 20 ≤ n := by
        by_cases z : 20 ≤ n
        · exact z
        · exact absurd ((nIl_20 hn).mpr (by omega)) h1
      have k2 : n ≤ 27 := by
        by_cases z : n ≤ 27
        · exact z
        · exact absurd ((nIg_k (k := 27) (x := (27 : Int32)) (by decide) hn rfl).mpr (by omega)) h2
      have e20 : nI 20 = (20 : Int32) := rfl
      have e : nI n - 20 = nI (n - 20) := by rw [← e20, pk_sub (by omega)]
      rw [x8, nI_add, ← e20, pk_sub (by omega), pk_sub (by omega), if_pos ((ck_nI (by omega)).mpr (by omega)), nI_clamp (by omega), nI_clamp (by omega), show 8 * g + n - 20 = 8 * g + (n - 20) by omega, b2 _ (by omega)]
  unfold f_MD_look t_look
  rw [m_is hg ht, Option.bind_some, if_neg (by decide), er]
  simp only [if_pos (cg hg), nI_clamp (show g < 2 ^ 31 by omega), b3, b4, b5, b6, b7, b8, b9, hs, c1, c4, hz, hd, ← apply_ite some, bi_if2]
theorem m_word {md pc ba bo ti : Nat} {ro ha : Bool} {rg mm dk : Nat → Nat} {cs : mc_K} {p q : Int32} (hg : g < 3) (hS : 64 ≤ Sg) (hS2 : Sg ≤ 1024) (ht : zth g = bi true) (hz : zsz g = nI Sg) (h : mR g Sg (zmem, zreg, zmd, zpc, zba, zbo, zti, zro, zha, zou, zop, zwa, zty, zdk) (md, pc, ba, bo, ti, ro, ha, rg, mm, dk, cs)) : f_MD_word2 zth zsz zmem (nI g) p = some (if p < 0 then -1 else if p < nI Sg then nI (mm p.toNatClampNeg) else -1) := by
  have b1 := h.1
  unfold f_MD_word2
  have e1 : nI Sg - 1 = nI (Sg - 1) := by
    obtain ⟨t, rfl⟩ : ∃ t, Sg = t + 1 := ⟨Sg - 1, by omega⟩
    exact nI_pred t
  rw [m_is hg ht, Option.bind_some, if_neg (by decide), if_pos (cg hg), nI_clamp (by omega), hz, e1]
  by_cases h1 : p < 0
  · rw [in0 (Or.inl h1), if_pos h1, Option.bind_some, if_pos rfl]
  obtain ⟨n, hn, rfl⟩ := (i32_c p).resolve_left h1
  by_cases h2 : n < Sg
  · rw [in1 h1 (fun z => by have := (nI_ltI (by omega) hn).mp z; omega), if_neg h1, if_pos ((nI_ltI hn (by omega)).mpr h2), Option.bind_some, if_neg (by decide), x1024, nI_add, if_pos ((ck_nI (by omega)).mpr (by omega)), nI_clamp (by omega), nI_clamp hn, b1 n h2]
  · rw [in0 (Or.inr ((nI_ltI (by omega) hn).mpr (by omega))), if_neg h1, if_neg (fun z => h2 ((nI_ltI hn (by omega)).mp z)), Option.bind_some, if_pos rfl]
theorem m_output {md pc ba bo ti : Nat} {ro ha : Bool} {rg mm dk : Nat → Nat} {cs : mc_K} {p q : Int32} (hg : g < 3) (ht : zth g = bi true) (hc : cs.2.2 < 2 ^ 30) (h : mR g Sg (zmem, zreg, zmd, zpc, zba, zbo, zti, zro, zha, zou, zop, zwa, zty, zdk) (md, pc, ba, bo, ti, ro, ha, rg, mm, dk, cs)) : f_MD_output zth zou zop (nI g) p = some (if p < 0 then -1 else if nI cs.2.2 ≤ p then -1 else if p < 500 then nI (cs.2.1 p.toNatClampNeg) else -1) := by
  obtain ⟨b1, b2, b3, b4, b5, b6, b7, b8, b9, ⟨c1, c2, c3, c4, c5⟩, b11⟩ := h
  unfold f_MD_output
  rw [m_is hg ht, Option.bind_some, if_neg (by decide)]
  by_cases h1 : p < 0
  · rw [in0 (Or.inl h1), if_pos h1, Option.bind_some, if_pos rfl]
  obtain ⟨n, hn, rfl⟩ := (i32_c p).resolve_left h1
  rw [if_neg h1, ic (nI_leI (by omega) hn), ic (nIl_500 hn)]
  by_cases h2 : n < 500
  · rw [in1 h1 (fun z => by have := (nIg_k (k := 499) (x := (499 : Int32)) (by decide) hn rfl).mp z; omega), Option.bind_some, if_neg (by decide), if_pos (cg hg), nI_clamp (by omega), c1, ic (nI_leI (by omega) hn)]
    by_cases h3 : cs.2.2 ≤ n
    · rw [if_pos h3, if_pos h3]
    · rw [if_neg h3, if_neg h3, if_pos h2, x500, nI_add, if_pos ((ck_nI (by omega)).mpr (by omega)), nI_clamp (by omega), nI_clamp hn, c2 n h2 (by omega)]
  · rw [in0 (Or.inr ((nIg_k (k := 499) (x := (499 : Int32)) (by decide) hn rfl).mpr (by omega))), Option.bind_some, if_pos rfl, if_neg h2]
    split <;> rfl
theorem m_disk {md pc ba bo ti : Nat} {ro ha : Bool} {rg mm dk : Nat → Nat} {cs : mc_K} {p q : Int32} (hg : g < 3) (ht : zth g = bi true) (h : mR g Sg (zmem, zreg, zmd, zpc, zba, zbo, zti, zro, zha, zou, zop, zwa, zty, zdk) (md, pc, ba, bo, ti, ro, ha, rg, mm, dk, cs)) : f_MD_disk zth zdk (nI g) p q = some (if p < 0 then -1 else if (8 : Int32) ≤ p then -1 else if q < 0 then -1 else if q < 16 then nI (dk (p.toNatClampNeg * 16 + q.toNatClampNeg)) else -1) := by
  obtain ⟨b1, b2, b3, b4, b5, b6, b7, b8, b9, b10, b11⟩ := h
  unfold f_MD_disk
  rw [m_is hg ht, Option.bind_some, if_neg (by decide)]
  by_cases h1 : p < 0
  · rw [in0 (Or.inl h1), if_pos h1, Option.bind_some, if_pos rfl]
  obtain ⟨a, ha, rfl⟩ := (i32_c p).resolve_left h1
  rw [if_neg h1, ic (nIn_8 ha)]
  by_cases h2 : 8 ≤ a
  · rw [if_pos h2, in0 (Or.inr ((nIg_k (k := 7) (x := (7 : Int32)) (by decide) ha rfl).mpr (by omega))), Option.bind_some, if_pos rfl]
  rw [if_neg h2, in1 h1 (fun z => by have := (nIg_k (k := 7) (x := (7 : Int32)) (by decide) ha rfl).mp z; omega), Option.bind_some, if_neg (by decide)]
  by_cases h3 : q < 0
  · rw [in0 (Or.inl h3), if_pos h3, Option.bind_some, if_pos rfl]
  obtain ⟨b, hb, rfl⟩ := (i32_c q).resolve_left h3
  rw [if_neg h3, ic (nIl_16 hb)]
  by_cases h4 : b < 16
  · rw [if_pos h4, in1 h3 (fun z => by have := (nIg_k (k := 15) (x := (15 : Int32)) (by decide) hb rfl).mp z; omega), Option.bind_some, if_neg (by decide), x128, x16, nI_add, nI_add, if_pos ((ck_nI (by omega)).mpr (by omega)), nI_clamp (by omega), nI_clamp (by omega), nI_clamp (by omega), show 128 * g + 16 * a + b = 128 * g + (a * 16 + b) by omega, b11 _ (by omega)]
  · rw [if_neg h4, in0 (Or.inr ((nIg_k (k := 15) (x := (15 : Int32)) (by decide) hb rfl).mpr (by omega))), Option.bind_some, if_pos rfl]
theorem m_type {cs : mc_K} {b : Nat} (hg : g < 3) (ht : zth g = bi true) (hb : b < 256) (h : cR g zou zop zwa zty cs) : ∃ ywa yty, f_MD_type zth zwa zty (nI g) (nI b) = some (if cs.1.length < 100 then 1 else 0, ywa, yty) ∧ cR g zou zop ywa yty (if cs.1.length < 100 then cs.1 ++ [b] else cs.1, cs.2) ∧ fs g zwa ywa ∧ fo 100 g zty yty := by
  have hh := h
  obtain ⟨c1, c2, c3, c4, c5⟩ := h
  unfold f_MD_type
  rw [m_is hg ht, Option.bind_some, if_neg (by decide), in1 (nI_pos (by omega)) (fun z => by have := (nI_ltI (a := 255) (by decide) (by omega)).mp z; omega), Option.bind_some, if_neg (by decide)]
  simp only [if_pos (cg hg), nI_clamp (show g < 2 ^ 31 by omega), c4, x100, nI_add, nI_1]
  rw [ic (nIe_100 (by omega))]
  by_cases hl : cs.1.length < 100
  · rw [if_neg (by omega), if_pos hl, if_pos hl, if_pos ((ck_nI (by omega)).mpr (by omega)), nI_clamp (by omega)]
    refine ⟨_, _, rfl, ⟨c1, c2, ?_, ?_, ?_⟩, fs_u fs_r, fo_u fo_r hl⟩
    · show (cs.1 ++ [b]).length ≤ 100
      rw [List.length_append]
      exact hl
    · rw [pk_us]
      show nI (cs.1.length + 1) = nI (cs.1 ++ [b]).length
      rw [List.length_append]
      rfl
    · intro j hj
      have hj' : j < cs.1.length + 1 := by
        have : (cs.1 ++ [b]).length = cs.1.length + 1 := by rw [List.length_append]; rfl
        have hj2 : j < (cs.1 ++ [b]).length := hj
        omega
      show upd zty (100 * g + cs.1.length) (nI b) (100 * g + j) = nI ((cs.1 ++ [b]).getD j 0)
      by_cases e : j = cs.1.length
      · subst e
        rw [pk_us]
        simp [List.getD_eq_getElem?_getD]
      · rw [pk_un (by omega), c5 j (by omega)]
        simp only [List.getD_eq_getElem?_getD]
        rw [List.getElem?_append_left (by omega)]
  · rw [if_pos (by omega), if_neg hl, if_neg hl]
    exact ⟨zwa, zty, rfl, hh, fs_r, fo_r⟩
theorem m_type0 {p q : Int32} (h : f_MD_isGuest zth p = some 0 ∨ f_MD_isGuest zth p = some 1 ∧ (q < 0 ∨ 255 < q)) : f_MD_type zth zwa zty p q = some (0, zwa, zty) := by
  unfold f_MD_type
  rcases h with h | ⟨h, h2⟩
  · rw [h, Option.bind_some, if_pos rfl]
  · rw [h, Option.bind_some, if_neg (by decide), in0 h2, Option.bind_some, if_pos rfl]
theorem m_b90 (hg : g < 3) : ∀ (k j u : Nat) (zdk : Nat → Int32), j + k = 128 → k < u → (∀ i, i < j → zdk (128 * g + i) = nI 0) → ∃ ydk, b_MD_begin_90 u zth zsz zdp zmem zreg zmd zpc zba zbo zti zro zha zst zou zwa zdk (nI g) (nI Sg) (nI j) = some (zth, zsz, zdp, zmem, zreg, upd zmd g (nI 0), upd zpc g (nI 16), upd zba g (nI 0), upd zbo g (nI Sg), upd zti g (nI 0), upd zro g (bi false), upd zha g (bi false), upd zst g (nI 0), upd zou g (nI 0), upd zwa g (nI 0), ydk) ∧ wn 128 g 128 ydk (fun _ => 0) ∧ fo 128 g zdk ydk := by
  intro k
  induction k with
  | zero =>
    intro j u zdk h1 h2 h3
    obtain ⟨u, rfl⟩ : ∃ m, u = m + 1 := ⟨u - 1, by omega⟩
    refine ⟨zdk, ?_, fun i hi => h3 i (by omega), fo_r⟩
    rw [b_MD_begin_90, if_pos ((nIn_128 (by omega)).mpr (by omega))]
    simp only [if_pos (cg hg), nI_clamp (show g < 2 ^ 31 by omega), nar0]
    rfl
  | succ k ih =>
    intro j u zdk h1 h2 h3
    obtain ⟨u, rfl⟩ : ∃ m, u = m + 1 := ⟨u - 1, by omega⟩
    obtain ⟨ydk, e1, e2, e3⟩ := ih (j + 1) u (upd zdk (128 * g + j) (nI 0)) (by omega) (by omega) (fun i hi => by
      by_cases q : i = j
      · subst q; rw [pk_us]
      · rw [pk_un (by omega)]; exact h3 i (by omega))
    refine ⟨ydk, ?_, e2, fo_t (fo_u fo_r (by omega)) e3⟩
    rw [b_MD_begin_90, if_neg (fun q => by have := (nIn_128 (by omega)).mp q; omega), x128, nI_add, if_pos ((ck_nI (by omega)).mpr (by omega)), nI_clamp (by omega), nI_1]
    exact e1
theorem m_b61 (hg : g < 3) : ∀ (k j u : Nat) (zreg : Nat → Int32), j + k = 8 → k < u → (∀ i, i < j → zreg (8 * g + i) = nI 0) → ∃ yreg, b_MD_begin_61 u zth zsz zdp zmem zreg zmd zpc zba zbo zti zro zha zst zou zwa zdk (nI g) (nI Sg) (nI j) = b_MD_begin_90 65536 zth zsz zdp zmem yreg zmd zpc zba zbo zti zro zha zst zou zwa zdk (nI g) (nI Sg) (nI 0) ∧ wn 8 g 8 yreg (fun _ => 0) ∧ fo 8 g zreg yreg := by
  intro k
  induction k with
  | zero =>
    intro j u zreg h1 h2 h3
    obtain ⟨u, rfl⟩ : ∃ m, u = m + 1 := ⟨u - 1, by omega⟩
    refine ⟨zreg, ?_, fun i hi => h3 i (by omega), fo_r⟩
    rw [b_MD_begin_61, if_pos ((nIn_8 (by omega)).mpr (by omega)), show nI 0 = (0 : Int32) from rfl]
  | succ k ih =>
    intro j u zreg h1 h2 h3
    obtain ⟨u, rfl⟩ : ∃ m, u = m + 1 := ⟨u - 1, by omega⟩
    obtain ⟨yreg, e1, e2, e3⟩ := ih (j + 1) u (upd zreg (8 * g + j) (nI 0)) (by omega) (by omega) (fun i hi => by
      by_cases q : i = j
      · subst q; rw [pk_us]
      · rw [pk_un (by omega)]; exact h3 i (by omega))
    refine ⟨yreg, ?_, e2, fo_t (fo_u fo_r (by omega)) e3⟩
    rw [b_MD_begin_61, if_neg (fun q => by have := (nIn_8 (by omega)).mp q; omega), x8, nI_add, if_pos ((ck_nI (by omega)).mpr (by omega)), nI_clamp (by omega), nI_1, ← e1]
    rfl
theorem m_b24 (hg : g < 3) : ∀ (k j u : Nat) (zmem : Nat → Int32), j + k = 1024 → k < u → (∀ i, i < j → zmem (1024 * g + i) = zmade i) → ∃ ymem, b_MD_begin_24 u zth zsz zdp zmem zreg zmd zpc zba zbo zti zro zha zst zou zwa zdk zmade (nI g) (nI Sg) (nI j) = b_MD_begin_61 65536 zth zsz zdp ymem zreg zmd zpc zba zbo zti zro zha zst zou zwa zdk (nI g) (nI Sg) (nI 0) ∧ (∀ i, i < 1024 → ymem (1024 * g + i) = zmade i) ∧ fo 1024 g zmem ymem := by
  intro k
  induction k with
  | zero =>
    intro j u zmem h1 h2 h3
    obtain ⟨u, rfl⟩ : ∃ m, u = m + 1 := ⟨u - 1, by omega⟩
    refine ⟨zmem, ?_, fun i hi => h3 i (by omega), fo_r⟩
    rw [b_MD_begin_24, if_pos ((nIn_1024 (by omega)).mpr (by omega)), show nI 0 = (0 : Int32) from rfl]
  | succ k ih =>
    intro j u zmem h1 h2 h3
    obtain ⟨u, rfl⟩ : ∃ m, u = m + 1 := ⟨u - 1, by omega⟩
    obtain ⟨ymem, e1, e2, e3⟩ := ih (j + 1) u (upd zmem (1024 * g + j) (zmade j)) (by omega) (by omega) (fun i hi => by
      by_cases q : i = j
      · subst q; rw [pk_us]
      · rw [pk_un (by omega)]; exact h3 i (by omega))
    refine ⟨ymem, ?_, e2, fo_t (fo_u fo_r (by omega)) e3⟩
    rw [b_MD_begin_24, if_neg (fun q => by have := (nIn_1024 (by omega)).mp q; omega), if_pos ((ck_nI (by omega)).mpr (by omega)), x1024, nI_add, if_pos ((ck_nI (by omega)).mpr (by omega)), nI_clamp (by omega), nI_clamp (by omega), nI_1, ← e1]
theorem m_begin {rg' mm' dk' sb : Nat → Nat} (hg : g < 3) (hS2 : Sg ≤ 1024) (hr : ∀ j, j < 8 → rg' j = 0) (hk : ∀ j, j < 128 → dk' j = 0) (hm : ∀ j, j < Sg → zmade j = nI (mm' j)) : ∃ ymem yreg ydk, f_MD_begin zth zsz zdp zmem zreg zmd zpc zba zbo zti zro zha zst zou zwa zdk zmade (nI g) (nI Sg) (nI d) = some (upd zth g (bi true), upd zsz g (nI Sg), upd zdp g (nI d), ymem, yreg, upd zmd g (nI 0), upd zpc g (nI 16), upd zba g (nI 0), upd zbo g (nI Sg), upd zti g (nI 0), upd zro g (bi false), upd zha g (bi false), upd zst g (nI 0), upd zou g (nI 0), upd zwa g (nI 0), ydk) ∧ mR g Sg (ymem, yreg, upd zmd g (nI 0), upd zpc g (nI 16), upd zba g (nI 0), upd zbo g (nI Sg), upd zti g (nI 0), upd zro g (bi false), upd zha g (bi false), upd zou g (nI 0), zop, upd zwa g (nI 0), zty, ydk) (0, 16, 0, Sg, 0, false, false, rg', mm', dk', ([], sb, 0)) ∧ mF g (zmem, zreg, zmd, zpc, zba, zbo, zti, zro, zha, zou, zop, zwa, zty, zdk) (ymem, yreg, upd zmd g (nI 0), upd zpc g (nI 16), upd zba g (nI 0), upd zbo g (nI Sg), upd zti g (nI 0), upd zro g (bi false), upd zha g (bi false), upd zou g (nI 0), zop, upd zwa g (nI 0), zty, ydk) := by
  obtain ⟨ymem, m1, m2, m3⟩ := m_b24 (Sg := Sg) (zth := upd zth g (bi true)) (zsz := upd zsz g (nI Sg)) (zdp := upd zdp g (nI d)) (zreg := zreg) (zmd := zmd) (zpc := zpc) (zba := zba) (zbo := zbo) (zti := zti) (zro := zro) (zha := zha) (zst := zst) (zou := zou) (zwa := zwa) (zdk := zdk) (zmade := zmade) hg 1024 0 65536 zmem (by omega) (by omega) (fun i hi => by omega)
  obtain ⟨yreg, r1, r2, r3⟩ := m_b61 (Sg := Sg) (zth := upd zth g (bi true)) (zsz := upd zsz g (nI Sg)) (zdp := upd zdp g (nI d)) (zmem := ymem) (zmd := zmd) (zpc := zpc) (zba := zba) (zbo := zbo) (zti := zti) (zro := zro) (zha := zha) (zst := zst) (zou := zou) (zwa := zwa) (zdk := zdk) hg 8 0 65536 zreg (by omega) (by omega) (fun i hi => by omega)
  obtain ⟨ydk, d1, d2, d3⟩ := m_b90 (Sg := Sg) (zth := upd zth g (bi true)) (zsz := upd zsz g (nI Sg)) (zdp := upd zdp g (nI d)) (zmem := ymem) (zreg := yreg) (zmd := zmd) (zpc := zpc) (zba := zba) (zbo := zbo) (zti := zti) (zro := zro) (zha := zha) (zst := zst) (zou := zou) (zwa := zwa) hg 128 0 65536 zdk (by omega) (by omega) (fun i hi => by omega)
  refine ⟨ymem, yreg, ydk, ?_, ⟨fun j hj => (m2 j (by omega)).trans (hm j hj), fun j hj => (r2 j hj).trans (by rw [hr j hj]), pk_us, pk_us, pk_us, pk_us, pk_us, pk_us, pk_us, ⟨pk_us, fun j h1 h2 => absurd h2 (Nat.not_lt_zero j), Nat.zero_le _, pk_us, fun j hj => absurd hj (Nat.not_lt_zero j)⟩, fun j hj => (d2 j hj).trans (by rw [hk j hj])⟩, ⟨m3, r3, fs_u fs_r, fs_u fs_r, fs_u fs_r, fs_u fs_r, fs_u fs_r, fs_u fs_r, fs_u fs_r, fs_u fs_r, fo_r, fs_u fs_r, fo_r, d3⟩⟩
  rw [r1, d1] at m1
  rw [show nI 0 = (0 : Int32) from rfl] at m1 ⊢
  unfold f_MD_begin
  simp only [if_pos (cg hg), nI_clamp (show g < 2 ^ 31 by omega), nar1]
  exact m1
end MME
