/-! THE MODEL'S MACHINE: the privileged operations -/
section MMC
variable {g Sg p ba bo ti a b n ad : Nat} {ro : Bool} {rg mm dk : Nat → Nat} {cs : mc_K} {fr : Int32} {zmem zreg zmd zpc zba zbo zti zro zha zou zop zwa zty zdk : Nat → Int32}
theorem m_tnl {L : Nat} {t : Nat → Nat} {x : Int32} (hg : g < 3) (hL : L < 100) (hw : zwa g = nI L) : ∀ (k j u : Nat) (zty : Nat → Int32), j + k = L → k < u → (∀ i, i < j → zty (100 * g + i) = nI (t i)) → (∀ i, j ≤ i → i < L → zty (100 * g + i + 1) = nI (t i)) → ∃ yty, b_MD_typedNext_44 u (nI g) zwa zty x (nI j) = some (x, zwa, yty) ∧ wn 100 g L yty t ∧ fo 100 g zty yty := by
  intro k
  induction k with
  | zero =>
    intro j u zty h1 h2 h3 h4
    obtain ⟨u, rfl⟩ : ∃ m, u = m + 1 := ⟨u - 1, by omega⟩
    refine ⟨zty, ?_, fun i hi => h3 i (by omega), fo_r⟩
    rw [b_MD_typedNext_44, if_pos (cg hg), nI_clamp (by omega), hw, if_pos ((nI_leI (by omega) (by omega)).mpr (by omega))]
  | succ k ih =>
    intro j u zty h1 h2 h3 h4
    obtain ⟨u, rfl⟩ : ∃ m, u = m + 1 := ⟨u - 1, by omega⟩
    obtain ⟨yty, e1, e2, e3⟩ := ih (j + 1) u (upd zty (100 * g + j) (nI (t j))) (by omega) (by omega) (fun i hi => by
      by_cases q : i = j
      · subst q; rw [pk_us]
      · rw [pk_un (by omega)]; exact h3 i (by omega)) (fun i h5 h6 => by
      rw [pk_un (by omega)]; exact h4 i (by omega) h6)
    refine ⟨yty, ?_, e2, fo_t (fo_u fo_r (by omega)) e3⟩
    rw [b_MD_typedNext_44, if_pos (cg hg), nI_clamp (by omega), hw, if_neg (fun q => by have := (nI_leI (by omega) (by omega)).mp q; omega), x100, nI_add, nI_1, if_pos ((ck_nI (by omega)).mpr (by omega)), if_pos ((ck_nI (by omega)).mpr (by omega)), nI_clamp (by omega), nI_clamp (by omega), h4 j (by omega) (by omega), nI_1]
    exact e1
theorem m_tn (hg : g < 3) (h : cR g zou zop zwa zty cs) : ∃ ywa yty, f_MD_typedNext (nI g) zwa zty = some (nI (mc_in cs).1, ywa, yty) ∧ cR g zou zop ywa yty (mc_in cs).2 ∧ fs g zwa ywa ∧ fo 100 g zty yty := by
  obtain ⟨ty, sf, c⟩ := cs
  obtain ⟨c1, c2, c3, c4, c5⟩ := h
  have c3' : ty.length ≤ 100 := c3
  have c4' : zwa g = nI ty.length := c4
  unfold f_MD_typedNext
  simp only [if_pos (cg hg), nI_clamp (show g < 2 ^ 31 by omega), c4']
  rw [ic (nIe_0 (by omega))]
  cases ty with
  | nil =>
    refine ⟨zwa, zty, ?_, ⟨c1, c2, c3, c4, c5⟩, fs_r, fo_r⟩
    rw [if_pos (show ([] : List Nat).length = 0 from rfl)]
    rfl
  | cons b t =>
    have hl : (b :: t).length = t.length + 1 := rfl
    have hc5 : ∀ i, i < t.length + 1 → zty (100 * g + i) = nI ((b :: t).getD i 0) := c5
    obtain ⟨yty, e1, e2, e3⟩ := m_tnl (g := g) (zwa := upd zwa g (nI t.length)) (L := t.length) (t := fun j => t.getD j 0) (x := nI b) hg (by omega) pk_us t.length 0 65536 zty (by omega) (by omega) (fun i hi => by omega) (fun i h5 h6 => by
      have := hc5 (i + 1) (by omega)
      rw [← Nat.add_assoc] at this
      rw [this]
      rfl)
    refine ⟨upd zwa g (nI t.length), yty, ?_, ⟨c1, c2, show t.length ≤ 100 by omega, pk_us, e2⟩, fs_u fs_r, e3⟩
    have z0 := hc5 0 (by omega)
    rw [Nat.add_zero] at z0
    rw [if_neg (by rw [hl]; omega), x100, if_pos ((ck_nI (by omega)).mpr (by omega)), nI_clamp (by omega), z0, hl, nI_pred]
    exact e1
theorem cpy_snoc (f g : Nat → Nat) (s t k : Nat) : mu (va_cpy f g s t k) (t + k) (f (s + k)) = va_cpy f g s t (k + 1) := by
  funext j
  unfold va_cpy mu
  by_cases h : j = t + k
  · subst h
    rw [if_pos rfl, if_pos (by omega), show s + (t + k - t) = s + k by omega]
  · rw [if_neg h]
    by_cases h2 : t ≤ j ∧ j < t + k
    · show (if t ≤ j ∧ j < t + k then _ else _) = _
      rw [if_pos h2, if_pos (by omega)]
    · show (if t ≤ j ∧ j < t + k then _ else _) = _
      rw [if_neg h2, if_neg (by omega)]
theorem m_l23 {s : Nat} (hg : g < 3) (hb : zba g = nI ba) (hS : Sg ≤ 1024) (h16 : ba + ad + 15 < Sg) (h65 : ad + 15 < 65536) (hs : s + 16 ≤ 128) (hd : wn 128 g 128 zdk dk) : ∀ (r k u : Nat) (zmem : Nat → Int32), k + r = 16 → r < u → wn 1024 g Sg zmem (va_cpy dk mm s (ba + ad) k) → ∃ ymem, b_MD_rest_378 u (nI g) zmem zreg zmd zpc zba zbo zti zro zou zop zwa zty zdk (nI 23) (nI ad) (nI (128 * g + s)) (nI k) = some (ymem, zreg, zmd, zpc, zba, zbo, zti, zro, zou, zop, zwa, zty, zdk) ∧ wn 1024 g Sg ymem (va_cpy dk mm s (ba + ad) 16) ∧ fo 1024 g zmem ymem := by
  intro r
  induction r with
  | zero =>
    intro k u zmem h1 h2 h3
    obtain ⟨u, rfl⟩ : ∃ m, u = m + 1 := ⟨u - 1, by omega⟩
    have e : k = 16 := by omega
    subst e
    refine ⟨zmem, ?_, h3, fo_r⟩
    rw [b_MD_rest_378, if_pos (by decide)]
  | succ r ih =>
    intro k u zmem h1 h2 h3
    obtain ⟨u, rfl⟩ : ∃ m, u = m + 1 := ⟨u - 1, by omega⟩
    have w := wn_upd (k := ba + ad + k) (v := dk (s + k)) h3
    rw [cpy_snoc] at w
    obtain ⟨ymem, e1, e2, e3⟩ := ih (k + 1) u _ (by omega) (by omega) w
    refine ⟨ymem, ?_, e2, fo_t (fo_u fo_r (by omega)) e3⟩
    have hdk := hd (s + k) (by omega)
    rw [← Nat.add_assoc] at hdk
    rw [b_MD_rest_378, if_neg (fun q => by have := (nIn_16 (by omega)).mp q; omega), if_pos (show nI 23 = (23 : Int32) by decide), nI_add, if_pos ((ck_nI (by omega)).mpr (by omega)), nI_clamp (by omega), hdk, nI_add, r65 (by omega), Nat.mod_eq_of_lt (by omega), m_set hg hb (by omega), Option.bind_some, nI_1, ← Nat.add_assoc ba]
    exact e1
theorem m_l24 {s : Nat} (hg : g < 3) (hb : zba g = nI ba) (hS : Sg ≤ 1024) (h16 : ba + ad + 15 < Sg) (h65 : ad + 15 < 65536) (hs : s + 16 ≤ 128) (hm : wn 1024 g Sg zmem mm) : ∀ (r k u : Nat) (zdk : Nat → Int32), k + r = 16 → r < u → wn 128 g 128 zdk (va_cpy mm dk (ba + ad) s k) → ∃ ydk, b_MD_rest_378 u (nI g) zmem zreg zmd zpc zba zbo zti zro zou zop zwa zty zdk (nI 24) (nI ad) (nI (128 * g + s)) (nI k) = some (zmem, zreg, zmd, zpc, zba, zbo, zti, zro, zou, zop, zwa, zty, ydk) ∧ wn 128 g 128 ydk (va_cpy mm dk (ba + ad) s 16) ∧ fo 128 g zdk ydk := by
  intro r
  induction r with
  | zero =>
    intro k u zdk h1 h2 h3
    obtain ⟨u, rfl⟩ : ∃ m, u = m + 1 := ⟨u - 1, by omega⟩
    have e : k = 16 := by omega
    subst e
    refine ⟨zdk, ?_, h3, fo_r⟩
    rw [b_MD_rest_378, if_pos (by decide)]
  | succ r ih =>
    intro k u zdk h1 h2 h3
    obtain ⟨u, rfl⟩ : ∃ m, u = m + 1 := ⟨u - 1, by omega⟩
    have w := wn_upd (k := s + k) (v := mm (ba + ad + k)) h3
    rw [cpy_snoc] at w
    obtain ⟨ydk, e1, e2, e3⟩ := ih (k + 1) u _ (by omega) (by omega) w
    refine ⟨ydk, ?_, e2, fo_t (fo_u fo_r (by omega)) e3⟩
    have hmm := hm (ba + ad + k) (by omega)
    rw [b_MD_rest_378, if_neg (fun q => by have := (nIn_16 (by omega)).mp q; omega), if_neg (show ¬ nI 24 = (23 : Int32) by decide), nI_add, r65 (by omega), Nat.mod_eq_of_lt (by omega), m_get hg hb (by omega), Option.bind_some, ← Nat.add_assoc ba, hmm, nI_add, if_pos ((ck_nI (by omega)).mpr (by omega)), nI_clamp (by omega), nI_1, Nat.add_assoc (128 * g)]
    exact e1
theorem m_does17 (hg : g < 3) (ha : a < 8) (hb : b < 8) (hn : n < 65536) (hr : ∀ j, rg j < 65536) (hm : ∀ j, mm j < 65536) (hS : Sg ≤ 1024) (had : ba + n + 3 < Sg) (h : mR g Sg (zmem, zreg, zmd, zpc, zba, zbo, zti, zro, zha, zou, zop, zwa, zty, zdk) (0, p + 2, ba, bo, ti, ro, false, rg, mm, dk, cs)) : ∃ B', f_MD_does (nI g) zmem zreg zmd zpc zba zbo zti zro zha zou zop zwa zty zdk (nI 17) (nI a) (nI b) (nI n) fr (nI p) = some B' ∧ mR g Sg B' (mc_pv 17 a n 0 p ba bo ti ro rg mm dk cs) ∧ mF g (zmem, zreg, zmd, zpc, zba, zbo, zti, zro, zha, zou, zop, zwa, zty, zdk) B' := by
  obtain ⟨b1, b2, b3, b4, b5, b6, b7, b8, b9, b10, b11⟩ := h
  have ea := b2 a ha
  have eb := b2 b hb
  have la := hr a
  have m0 := b1 (ba + (n)) (by omega)
  have m1 := b1 (ba + (n + 1)) (by omega)
  have m2 := b1 (ba + (n + 2)) (by omega)
  have m3 := b1 (ba + (n + 3)) (by omega)
  refine ⟨(zmem, zreg, upd zmd g (nI (if mm (ba + n) = 0 then 0 else 1)), upd zpc g (nI (mm (ba + (n + 1)))), upd zba g (nI (mm (ba + (n + 2)))), upd zbo g (nI (mm (ba + (n + 3)))), zti, zro, zha, zou, zop, zwa, zty, zdk), ?_, ⟨b1, b2, pk_us, pk_us, pk_us, pk_us, b7, b8, b9, b10, b11⟩, ⟨fo_r, fo_r, fs_u fs_r, fs_u fs_r, fs_u fs_r, fs_u fs_r, fs_r, fs_r, fs_r, fs_r, fo_r, fs_r, fo_r, fo_r⟩⟩
  · unfold f_MD_does f_MD_rest
    simp only [if_pos (cg hg), nI_clamp (show g < 2 ^ 31 by omega), x8, nI_add, if_pos ((ck_nI (n := 8 * g + a) (N := 24) (by omega)).mpr (by omega)), if_pos ((ck_nI (n := 8 * g + b) (N := 24) (by omega)).mpr (by omega)), nI_clamp (show 8 * g + a < 2 ^ 31 by omega), nI_clamp (show 8 * g + b < 2 ^ 31 by omega), ea, eb, if_neg (show ¬ nI 17 = (0 : Int32) by decide), if_neg (show ¬ nI 17 = (1 : Int32) by decide), if_neg (show ¬ nI 17 = (2 : Int32) by decide), if_neg (show ¬ nI 17 = (3 : Int32) by decide), if_neg (show ¬ nI 17 = (4 : Int32) by decide), if_neg (show ¬ nI 17 = (5 : Int32) by decide), if_neg (show ¬ nI 17 = (6 : Int32) by decide), if_neg (show ¬ nI 17 = (7 : Int32) by decide), if_neg (show ¬ nI 17 = (8 : Int32) by decide), if_neg (show ¬ nI 17 = (9 : Int32) by decide), if_neg (show ¬ nI 17 = (10 : Int32) by decide), if_neg (show ¬ nI 17 = (11 : Int32) by decide), if_neg (show ¬ nI 17 = (12 : Int32) by decide), if_neg (show ¬ nI 17 = (13 : Int32) by decide), if_neg (show ¬ nI 17 = (14 : Int32) by decide), if_neg (show ¬ nI 17 = (15 : Int32) by decide), if_neg (show ¬ nI 17 = (16 : Int32) by decide), if_pos (show nI 17 = (17 : Int32) by decide), nI_1, nI_p2, nI_p3, r65 (a := n + 1) (by omega), r65 (a := n + 2) (by omega), r65 (a := n + 3) (by omega), Nat.mod_eq_of_lt (show n + 1 < 65536 by omega), Nat.mod_eq_of_lt (show n + 2 < 65536 by omega), Nat.mod_eq_of_lt (show n + 3 < 65536 by omega), m_get hg b5 (show ba + n < 1024 by omega), m_get hg b5 (show ba + (n + 1) < 1024 by omega), m_get hg b5 (show ba + (n + 2) < 1024 by omega), m_get hg b5 (show ba + (n + 3) < 1024 by omega), Option.bind_some, m0, m1, m2, m3, b_MD_rest_114]
    rw [ic (nIe_0 (by have := hm (ba + n); omega))]
    by_cases q : mm (ba + n) = 0
    · rw [if_pos q, if_pos q]; rfl
    · rw [if_neg q, if_neg q]; rfl
theorem m_does18 (hg : g < 3) (ha : a < 8) (hb : b < 8) (hn : n < 65536) (hr : ∀ j, rg j < 65536) (hS : Sg ≤ 1024) (had : ba + n + 3 < Sg) (h : mR g Sg (zmem, zreg, zmd, zpc, zba, zbo, zti, zro, zha, zou, zop, zwa, zty, zdk) (0, p + 2, ba, bo, ti, ro, false, rg, mm, dk, cs)) : ∃ B', f_MD_does (nI g) zmem zreg zmd zpc zba zbo zti zro zha zou zop zwa zty zdk (nI 18) (nI a) (nI b) (nI n) fr (nI p) = some B' ∧ mR g Sg B' (mc_pv 18 a n 0 p ba bo ti ro rg mm dk cs) ∧ mF g (zmem, zreg, zmd, zpc, zba, zbo, zti, zro, zha, zou, zop, zwa, zty, zdk) B' := by
  obtain ⟨b1, b2, b3, b4, b5, b6, b7, b8, b9, b10, b11⟩ := h
  have ea := b2 a ha
  have eb := b2 b hb
  have la := hr a
  have w := wn_upd (k := ba + (n + 3)) (v := bo) (wn_upd (k := ba + (n + 2)) (v := ba) (wn_upd (k := ba + (n + 1)) (v := p + 2) (wn_upd (k := ba + n) (v := 0) b1)))
  refine ⟨(_, zreg, zmd, zpc, zba, zbo, zti, zro, zha, zou, zop, zwa, zty, zdk), ?_, ⟨w, b2, b3, b4, b5, b6, b7, b8, b9, b10, b11⟩, ⟨fo_u (fo_u (fo_u (fo_u fo_r (by omega)) (by omega)) (by omega)) (by omega), fo_r, fs_r, fs_r, fs_r, fs_r, fs_r, fs_r, fs_r, fs_r, fo_r, fs_r, fo_r, fo_r⟩⟩
  · unfold f_MD_does f_MD_rest
    simp only [if_pos (cg hg), nI_clamp (show g < 2 ^ 31 by omega), x8, nI_add, if_pos ((ck_nI (n := 8 * g + a) (N := 24) (by omega)).mpr (by omega)), if_pos ((ck_nI (n := 8 * g + b) (N := 24) (by omega)).mpr (by omega)), nI_clamp (show 8 * g + a < 2 ^ 31 by omega), nI_clamp (show 8 * g + b < 2 ^ 31 by omega), ea, eb, if_neg (show ¬ nI 18 = (0 : Int32) by decide), if_neg (show ¬ nI 18 = (1 : Int32) by decide), if_neg (show ¬ nI 18 = (2 : Int32) by decide), if_neg (show ¬ nI 18 = (3 : Int32) by decide), if_neg (show ¬ nI 18 = (4 : Int32) by decide), if_neg (show ¬ nI 18 = (5 : Int32) by decide), if_neg (show ¬ nI 18 = (6 : Int32) by decide), if_neg (show ¬ nI 18 = (7 : Int32) by decide), if_neg (show ¬ nI 18 = (8 : Int32) by decide), if_neg (show ¬ nI 18 = (9 : Int32) by decide), if_neg (show ¬ nI 18 = (10 : Int32) by decide), if_neg (show ¬ nI 18 = (11 : Int32) by decide), if_neg (show ¬ nI 18 = (12 : Int32) by decide), if_neg (show ¬ nI 18 = (13 : Int32) by decide), if_neg (show ¬ nI 18 = (14 : Int32) by decide), if_neg (show ¬ nI 18 = (15 : Int32) by decide), if_neg (show ¬ nI 18 = (16 : Int32) by decide), if_neg (show ¬ nI 18 = (17 : Int32) by decide), if_pos (show nI 18 = (18 : Int32) by decide), nI_1, nI_p2, nI_p3, r65 (a := n + 1) (by omega), r65 (a := n + 2) (by omega), r65 (a := n + 3) (by omega), Nat.mod_eq_of_lt (show n + 1 < 65536 by omega), Nat.mod_eq_of_lt (show n + 2 < 65536 by omega), Nat.mod_eq_of_lt (show n + 3 < 65536 by omega), m_set hg b5 (show ba + n < 1024 by omega), m_set hg b5 (show ba + (n + 1) < 1024 by omega), m_set hg b5 (show ba + (n + 2) < 1024 by omega), m_set hg b5 (show ba + (n + 3) < 1024 by omega), Option.bind_some, b3, b4, b5, b6]
theorem m_does19 (hg : g < 3) (ha : a < 8) (hb : b < 8) (hn : n < 65536) (hr : ∀ j, rg j < 65536) (h : mR g Sg (zmem, zreg, zmd, zpc, zba, zbo, zti, zro, zha, zou, zop, zwa, zty, zdk) (0, p + 2, ba, bo, ti, ro, false, rg, mm, dk, cs)) : ∃ B', f_MD_does (nI g) zmem zreg zmd zpc zba zbo zti zro zha zou zop zwa zty zdk (nI 19) (nI a) (nI b) (nI n) fr (nI p) = some B' ∧ mR g Sg B' (mc_pv 19 a ad 0 p ba bo ti ro rg mm dk cs) ∧ mF g (zmem, zreg, zmd, zpc, zba, zbo, zti, zro, zha, zou, zop, zwa, zty, zdk) B' := by
  obtain ⟨b1, b2, b3, b4, b5, b6, b7, b8, b9, b10, b11⟩ := h
  have ea := b2 a ha
  have eb := b2 b hb
  have la := hr a
  refine ⟨(zmem, zreg, zmd, zpc, zba, zbo, upd zti g (nI (rg a)), upd zro g (bi false), zha, zou, zop, zwa, zty, zdk), ?_, ⟨b1, b2, b3, b4, b5, b6, pk_us, pk_us, b9, b10, b11⟩, ⟨fo_r, fo_r, fs_r, fs_r, fs_r, fs_r, fs_u fs_r, fs_u fs_r, fs_r, fs_r, fo_r, fs_r, fo_r, fo_r⟩⟩
  · unfold f_MD_does f_MD_rest
    simp only [if_pos (cg hg), nI_clamp (show g < 2 ^ 31 by omega), x8, nI_add, if_pos ((ck_nI (n := 8 * g + a) (N := 24) (by omega)).mpr (by omega)), if_pos ((ck_nI (n := 8 * g + b) (N := 24) (by omega)).mpr (by omega)), nI_clamp (show 8 * g + a < 2 ^ 31 by omega), nI_clamp (show 8 * g + b < 2 ^ 31 by omega), ea, eb, if_neg (show ¬ nI 19 = (0 : Int32) by decide), if_neg (show ¬ nI 19 = (1 : Int32) by decide), if_neg (show ¬ nI 19 = (2 : Int32) by decide), if_neg (show ¬ nI 19 = (3 : Int32) by decide), if_neg (show ¬ nI 19 = (4 : Int32) by decide), if_neg (show ¬ nI 19 = (5 : Int32) by decide), if_neg (show ¬ nI 19 = (6 : Int32) by decide), if_neg (show ¬ nI 19 = (7 : Int32) by decide), if_neg (show ¬ nI 19 = (8 : Int32) by decide), if_neg (show ¬ nI 19 = (9 : Int32) by decide), if_neg (show ¬ nI 19 = (10 : Int32) by decide), if_neg (show ¬ nI 19 = (11 : Int32) by decide), if_neg (show ¬ nI 19 = (12 : Int32) by decide), if_neg (show ¬ nI 19 = (13 : Int32) by decide), if_neg (show ¬ nI 19 = (14 : Int32) by decide), if_neg (show ¬ nI 19 = (15 : Int32) by decide), if_neg (show ¬ nI 19 = (16 : Int32) by decide), if_neg (show ¬ nI 19 = (17 : Int32) by decide), if_neg (show ¬ nI 19 = (18 : Int32) by decide), if_pos (show nI 19 = (19 : Int32) by decide), nar0, Option.bind_some]
theorem m_does20 (hg : g < 3) (ha : a < 8) (hb : b < 8) (hn : n < 65536) (hr : ∀ j, rg j < 65536) (h : mR g Sg (zmem, zreg, zmd, zpc, zba, zbo, zti, zro, zha, zou, zop, zwa, zty, zdk) (0, p + 2, ba, bo, ti, ro, false, rg, mm, dk, cs)) : ∃ B', f_MD_does (nI g) zmem zreg zmd zpc zba zbo zti zro zha zou zop zwa zty zdk (nI 20) (nI a) (nI b) (nI n) fr (nI p) = some B' ∧ mR g Sg B' (mc_pv 20 a ad 0 p ba bo ti ro rg mm dk cs) ∧ mF g (zmem, zreg, zmd, zpc, zba, zbo, zti, zro, zha, zou, zop, zwa, zty, zdk) B' := by
  obtain ⟨b1, b2, b3, b4, b5, b6, b7, b8, b9, b10, b11⟩ := h
  have ea := b2 a ha
  have eb := b2 b hb
  have la := hr a
  refine ⟨(zmem, upd zreg (8 * g + a) (nI ti), zmd, zpc, zba, zbo, zti, zro, zha, zou, zop, zwa, zty, zdk), ?_, ⟨b1, wn_upd b2, b3, b4, b5, b6, b7, b8, b9, b10, b11⟩, ⟨fo_r, fo_u fo_r (by omega), fs_r, fs_r, fs_r, fs_r, fs_r, fs_r, fs_r, fs_r, fo_r, fs_r, fo_r, fo_r⟩⟩
  · unfold f_MD_does f_MD_rest
    simp only [if_pos (cg hg), nI_clamp (show g < 2 ^ 31 by omega), x8, nI_add, if_pos ((ck_nI (n := 8 * g + a) (N := 24) (by omega)).mpr (by omega)), if_pos ((ck_nI (n := 8 * g + b) (N := 24) (by omega)).mpr (by omega)), nI_clamp (show 8 * g + a < 2 ^ 31 by omega), nI_clamp (show 8 * g + b < 2 ^ 31 by omega), ea, eb, if_neg (show ¬ nI 20 = (0 : Int32) by decide), if_neg (show ¬ nI 20 = (1 : Int32) by decide), if_neg (show ¬ nI 20 = (2 : Int32) by decide), if_neg (show ¬ nI 20 = (3 : Int32) by decide), if_neg (show ¬ nI 20 = (4 : Int32) by decide), if_neg (show ¬ nI 20 = (5 : Int32) by decide), if_neg (show ¬ nI 20 = (6 : Int32) by decide), if_neg (show ¬ nI 20 = (7 : Int32) by decide), if_neg (show ¬ nI 20 = (8 : Int32) by decide), if_neg (show ¬ nI 20 = (9 : Int32) by decide), if_neg (show ¬ nI 20 = (10 : Int32) by decide), if_neg (show ¬ nI 20 = (11 : Int32) by decide), if_neg (show ¬ nI 20 = (12 : Int32) by decide), if_neg (show ¬ nI 20 = (13 : Int32) by decide), if_neg (show ¬ nI 20 = (14 : Int32) by decide), if_neg (show ¬ nI 20 = (15 : Int32) by decide), if_neg (show ¬ nI 20 = (16 : Int32) by decide), if_neg (show ¬ nI 20 = (17 : Int32) by decide), if_neg (show ¬ nI 20 = (18 : Int32) by decide), if_neg (show ¬ nI 20 = (19 : Int32) by decide), if_pos (show nI 20 = (20 : Int32) by decide), b7, Option.bind_some]
theorem m_does21 (hg : g < 3) (ha : a < 8) (hb : b < 8) (hn : n < 65536) (hr : ∀ j, rg j < 65536) (h : mR g Sg (zmem, zreg, zmd, zpc, zba, zbo, zti, zro, zha, zou, zop, zwa, zty, zdk) (0, p + 2, ba, bo, ti, ro, false, rg, mm, dk, cs)) : ∃ B', f_MD_does (nI g) zmem zreg zmd zpc zba zbo zti zro zha zou zop zwa zty zdk (nI 21) (nI a) (nI b) (nI n) fr (nI p) = some B' ∧ mR g Sg B' (mc_pv 21 a ad 0 p ba bo ti ro rg mm dk cs) ∧ mF g (zmem, zreg, zmd, zpc, zba, zbo, zti, zro, zha, zou, zop, zwa, zty, zdk) B' := by
  obtain ⟨b1, b2, b3, b4, b5, b6, b7, b8, b9, b10, b11⟩ := h
  have ea := b2 a ha
  have eb := b2 b hb
  have la := hr a
  obtain ⟨ywa, yty, t1, t2, t3, t4⟩ := m_tn hg b10
  refine ⟨(zmem, upd zreg (8 * g + a) (nI (mc_in cs).1), zmd, zpc, zba, zbo, zti, zro, zha, zou, zop, ywa, yty, zdk), ?_, ⟨b1, wn_upd b2, b3, b4, b5, b6, b7, b8, b9, t2, b11⟩, ⟨fo_r, fo_u fo_r (by omega), fs_r, fs_r, fs_r, fs_r, fs_r, fs_r, fs_r, fs_r, fo_r, t3, t4, fo_r⟩⟩
  · unfold f_MD_does f_MD_rest
    simp only [if_pos (cg hg), nI_clamp (show g < 2 ^ 31 by omega), x8, nI_add, if_pos ((ck_nI (n := 8 * g + a) (N := 24) (by omega)).mpr (by omega)), if_pos ((ck_nI (n := 8 * g + b) (N := 24) (by omega)).mpr (by omega)), nI_clamp (show 8 * g + a < 2 ^ 31 by omega), nI_clamp (show 8 * g + b < 2 ^ 31 by omega), ea, eb, if_neg (show ¬ nI 21 = (0 : Int32) by decide), if_neg (show ¬ nI 21 = (1 : Int32) by decide), if_neg (show ¬ nI 21 = (2 : Int32) by decide), if_neg (show ¬ nI 21 = (3 : Int32) by decide), if_neg (show ¬ nI 21 = (4 : Int32) by decide), if_neg (show ¬ nI 21 = (5 : Int32) by decide), if_neg (show ¬ nI 21 = (6 : Int32) by decide), if_neg (show ¬ nI 21 = (7 : Int32) by decide), if_neg (show ¬ nI 21 = (8 : Int32) by decide), if_neg (show ¬ nI 21 = (9 : Int32) by decide), if_neg (show ¬ nI 21 = (10 : Int32) by decide), if_neg (show ¬ nI 21 = (11 : Int32) by decide), if_neg (show ¬ nI 21 = (12 : Int32) by decide), if_neg (show ¬ nI 21 = (13 : Int32) by decide), if_neg (show ¬ nI 21 = (14 : Int32) by decide), if_neg (show ¬ nI 21 = (15 : Int32) by decide), if_neg (show ¬ nI 21 = (16 : Int32) by decide), if_neg (show ¬ nI 21 = (17 : Int32) by decide), if_neg (show ¬ nI 21 = (18 : Int32) by decide), if_neg (show ¬ nI 21 = (19 : Int32) by decide), if_neg (show ¬ nI 21 = (20 : Int32) by decide), if_pos (show nI 21 = (21 : Int32) by decide), t1, Option.bind_some]
theorem m_does22 (hg : g < 3) (ha : a < 8) (hb : b < 8) (hn : n < 65536) (hr : ∀ j, rg j < 65536) (hc : cs.2.2 < 2 ^ 30) (h : mR g Sg (zmem, zreg, zmd, zpc, zba, zbo, zti, zro, zha, zou, zop, zwa, zty, zdk) (0, p + 2, ba, bo, ti, ro, false, rg, mm, dk, cs)) : ∃ B', f_MD_does (nI g) zmem zreg zmd zpc zba zbo zti zro zha zou zop zwa zty zdk (nI 22) (nI a) (nI b) (nI n) fr (nI p) = some B' ∧ mR g Sg B' (mc_pv 22 a ad 0 p ba bo ti ro rg mm dk cs) ∧ mF g (zmem, zreg, zmd, zpc, zba, zbo, zti, zro, zha, zou, zop, zwa, zty, zdk) B' := by
  obtain ⟨b1, b2, b3, b4, b5, b6, b7, b8, b9, b10, b11⟩ := h
  have ea := b2 a ha
  have eb := b2 b hb
  have la := hr a
  obtain ⟨c1, c2, c3, c4, c5⟩ := b10
  have e255 : nI (rg a) &&& 255 = nI (rg a % 256) := pk_andN (by omega) 8 (by decide)
  by_cases q : cs.2.2 < 500
  · refine ⟨(zmem, zreg, zmd, zpc, zba, zbo, zti, zro, zha, upd zou g (nI (cs.2.2 + 1)), upd zop (500 * g + cs.2.2) (nI (rg a % 256)), zwa, zty, zdk), ?_, ⟨b1, b2, b3, b4, b5, b6, b7, b8, b9, ⟨pk_us, fun j h1 h2 => ?_, c3, c4, c5⟩, b11⟩, ⟨fo_r, fo_r, fs_r, fs_r, fs_r, fs_r, fs_r, fs_r, fs_r, fs_u fs_r, fo_u fo_r (by omega), fs_r, fo_r, fo_r⟩⟩
    · unfold f_MD_does f_MD_rest
      simp only [if_pos (cg hg), nI_clamp (show g < 2 ^ 31 by omega), x8, nI_add, if_pos ((ck_nI (n := 8 * g + a) (N := 24) (by omega)).mpr (by omega)), if_pos ((ck_nI (n := 8 * g + b) (N := 24) (by omega)).mpr (by omega)), nI_clamp (show 8 * g + a < 2 ^ 31 by omega), nI_clamp (show 8 * g + b < 2 ^ 31 by omega), ea, eb, if_neg (show ¬ nI 22 = (0 : Int32) by decide), if_neg (show ¬ nI 22 = (1 : Int32) by decide), if_neg (show ¬ nI 22 = (2 : Int32) by decide), if_neg (show ¬ nI 22 = (3 : Int32) by decide), if_neg (show ¬ nI 22 = (4 : Int32) by decide), if_neg (show ¬ nI 22 = (5 : Int32) by decide), if_neg (show ¬ nI 22 = (6 : Int32) by decide), if_neg (show ¬ nI 22 = (7 : Int32) by decide), if_neg (show ¬ nI 22 = (8 : Int32) by decide), if_neg (show ¬ nI 22 = (9 : Int32) by decide), if_neg (show ¬ nI 22 = (10 : Int32) by decide), if_neg (show ¬ nI 22 = (11 : Int32) by decide), if_neg (show ¬ nI 22 = (12 : Int32) by decide), if_neg (show ¬ nI 22 = (13 : Int32) by decide), if_neg (show ¬ nI 22 = (14 : Int32) by decide), if_neg (show ¬ nI 22 = (15 : Int32) by decide), if_neg (show ¬ nI 22 = (16 : Int32) by decide), if_neg (show ¬ nI 22 = (17 : Int32) by decide), if_neg (show ¬ nI 22 = (18 : Int32) by decide), if_neg (show ¬ nI 22 = (19 : Int32) by decide), if_neg (show ¬ nI 22 = (20 : Int32) by decide), if_neg (show ¬ nI 22 = (21 : Int32) by decide), if_pos (show nI 22 = (22 : Int32) by decide), c1, x500, e255, b_MD_rest_335, nI_1]
      rw [if_neg (fun z => by have := (nIn_500 (by omega)).mp z; omega), if_pos ((ck_nI (by omega)).mpr (by omega)), nI_clamp (by omega)]
      rfl
    · have h2' : j < cs.2.2 + 1 := h2
      show upd zop (500 * g + cs.2.2) (nI (rg a % 256)) (500 * g + j) = nI ((mc_out cs (rg a % 256)).2.1 j)
      unfold mc_out
      rw [if_pos q]
      by_cases e : j = cs.2.2
      · subst e; rw [pk_us]; exact congrArg nI (mu_s _ _ _).symm
      · rw [pk_un (by omega), c2 j h1 (by omega)]; exact congrArg nI (mu_n _ _ e).symm
  · refine ⟨(zmem, zreg, zmd, zpc, zba, zbo, zti, zro, zha, upd zou g (nI (cs.2.2 + 1)), zop, zwa, zty, zdk), ?_, ⟨b1, b2, b3, b4, b5, b6, b7, b8, b9, ⟨pk_us, fun j h1 h2 => ?_, c3, c4, c5⟩, b11⟩, ⟨fo_r, fo_r, fs_r, fs_r, fs_r, fs_r, fs_r, fs_r, fs_r, fs_u fs_r, fo_r, fs_r, fo_r, fo_r⟩⟩
    · unfold f_MD_does f_MD_rest
      simp only [if_pos (cg hg), nI_clamp (show g < 2 ^ 31 by omega), x8, nI_add, if_pos ((ck_nI (n := 8 * g + a) (N := 24) (by omega)).mpr (by omega)), if_pos ((ck_nI (n := 8 * g + b) (N := 24) (by omega)).mpr (by omega)), nI_clamp (show 8 * g + a < 2 ^ 31 by omega), nI_clamp (show 8 * g + b < 2 ^ 31 by omega), ea, eb, if_neg (show ¬ nI 22 = (0 : Int32) by decide), if_neg (show ¬ nI 22 = (1 : Int32) by decide), if_neg (show ¬ nI 22 = (2 : Int32) by decide), if_neg (show ¬ nI 22 = (3 : Int32) by decide), if_neg (show ¬ nI 22 = (4 : Int32) by decide), if_neg (show ¬ nI 22 = (5 : Int32) by decide), if_neg (show ¬ nI 22 = (6 : Int32) by decide), if_neg (show ¬ nI 22 = (7 : Int32) by decide), if_neg (show ¬ nI 22 = (8 : Int32) by decide), if_neg (show ¬ nI 22 = (9 : Int32) by decide), if_neg (show ¬ nI 22 = (10 : Int32) by decide), if_neg (show ¬ nI 22 = (11 : Int32) by decide), if_neg (show ¬ nI 22 = (12 : Int32) by decide), if_neg (show ¬ nI 22 = (13 : Int32) by decide), if_neg (show ¬ nI 22 = (14 : Int32) by decide), if_neg (show ¬ nI 22 = (15 : Int32) by decide), if_neg (show ¬ nI 22 = (16 : Int32) by decide), if_neg (show ¬ nI 22 = (17 : Int32) by decide), if_neg (show ¬ nI 22 = (18 : Int32) by decide), if_neg (show ¬ nI 22 = (19 : Int32) by decide), if_neg (show ¬ nI 22 = (20 : Int32) by decide), if_neg (show ¬ nI 22 = (21 : Int32) by decide), if_pos (show nI 22 = (22 : Int32) by decide), c1, x500, e255, b_MD_rest_335, nI_1]
      rw [if_pos ((nIn_500 (by omega)).mpr (by omega))]
      rfl
    · show zop (500 * g + j) = nI ((mc_out cs (rg a % 256)).2.1 j)
      unfold mc_out
      rw [if_neg q]
      exact c2 j h1 (by omega)
theorem m_does23 (hg : g < 3) (ha : a < 8) (hb : b < 8) (hn : n < 65536) (hr : ∀ j, rg j < 65536) (hS : Sg ≤ 1024) (had : ba + ad + 15 < Sg) (h65 : ad + 15 < 65536) (h : mR g Sg (zmem, zreg, zmd, zpc, zba, zbo, zti, zro, zha, zou, zop, zwa, zty, zdk) (0, p + 2, ba, bo, ti, ro, false, rg, mm, dk, cs)) : ∃ B', f_MD_does (nI g) zmem zreg zmd zpc zba zbo zti zro zha zou zop zwa zty zdk (nI 23) (nI a) (nI b) (nI n) (nI ad) (nI p) = some B' ∧ mR g Sg B' (mc_pv 23 a ad 0 p ba bo ti ro rg mm dk cs) ∧ mF g (zmem, zreg, zmd, zpc, zba, zbo, zti, zro, zha, zou, zop, zwa, zty, zdk) B' := by
  obtain ⟨b1, b2, b3, b4, b5, b6, b7, b8, b9, b10, b11⟩ := h
  have ea := b2 a ha
  have eb := b2 b hb
  have la := hr a
  have l8 : rg a % 8 < 8 := Nat.mod_lt _ (by decide)
  obtain ⟨ymem, t1, t2, t3⟩ := m_l23 (zreg := zreg) (zmd := zmd) (zpc := zpc) (zbo := zbo) (zti := zti) (zro := zro) (zou := zou) (zop := zop) (zwa := zwa) (zty := zty) (s := rg a % 8 * 16) hg b5 hS had h65 (by omega) b11 16 0 65536 zmem (by omega) (by omega) (by rw [cpy_end]; exact b1)
  refine ⟨(ymem, zreg, zmd, zpc, zba, zbo, zti, zro, zha, zou, zop, zwa, zty, zdk), ?_, ⟨t2, b2, b3, b4, b5, b6, b7, b8, b9, b10, b11⟩, ⟨t3, fo_r, fs_r, fs_r, fs_r, fs_r, fs_r, fs_r, fs_r, fs_r, fo_r, fs_r, fo_r, fo_r⟩⟩
  rw [show nI 0 = (0 : Int32) from rfl] at t1
  unfold f_MD_does f_MD_rest
  simp only [if_pos (cg hg), nI_clamp (show g < 2 ^ 31 by omega), x8, nI_add, if_pos ((ck_nI (n := 8 * g + a) (N := 24) (by omega)).mpr (by omega)), if_pos ((ck_nI (n := 8 * g + b) (N := 24) (by omega)).mpr (by omega)), nI_clamp (show 8 * g + a < 2 ^ 31 by omega), nI_clamp (show 8 * g + b < 2 ^ 31 by omega), ea, eb, if_neg (show ¬ nI 23 = (0 : Int32) by decide), if_neg (show ¬ nI 23 = (1 : Int32) by decide), if_neg (show ¬ nI 23 = (2 : Int32) by decide), if_neg (show ¬ nI 23 = (3 : Int32) by decide), if_neg (show ¬ nI 23 = (4 : Int32) by decide), if_neg (show ¬ nI 23 = (5 : Int32) by decide), if_neg (show ¬ nI 23 = (6 : Int32) by decide), if_neg (show ¬ nI 23 = (7 : Int32) by decide), if_neg (show ¬ nI 23 = (8 : Int32) by decide), if_neg (show ¬ nI 23 = (9 : Int32) by decide), if_neg (show ¬ nI 23 = (10 : Int32) by decide), if_neg (show ¬ nI 23 = (11 : Int32) by decide), if_neg (show ¬ nI 23 = (12 : Int32) by decide), if_neg (show ¬ nI 23 = (13 : Int32) by decide), if_neg (show ¬ nI 23 = (14 : Int32) by decide), if_neg (show ¬ nI 23 = (15 : Int32) by decide), if_neg (show ¬ nI 23 = (16 : Int32) by decide), if_neg (show ¬ nI 23 = (17 : Int32) by decide), if_neg (show ¬ nI 23 = (18 : Int32) by decide), if_neg (show ¬ nI 23 = (19 : Int32) by decide), if_neg (show ¬ nI 23 = (20 : Int32) by decide), if_neg (show ¬ nI 23 = (21 : Int32) by decide), if_neg (show ¬ nI 23 = (22 : Int32) by decide), x128, r8 (show rg a < 2 ^ 31 by omega), x16, nI_add, Nat.mul_comm 16 (rg a % 8), t1, Option.bind_some]
theorem m_does24 (hg : g < 3) (ha : a < 8) (hb : b < 8) (hn : n < 65536) (hr : ∀ j, rg j < 65536) (hS : Sg ≤ 1024) (had : ba + ad + 15 < Sg) (h65 : ad + 15 < 65536) (h : mR g Sg (zmem, zreg, zmd, zpc, zba, zbo, zti, zro, zha, zou, zop, zwa, zty, zdk) (0, p + 2, ba, bo, ti, ro, false, rg, mm, dk, cs)) : ∃ B', f_MD_does (nI g) zmem zreg zmd zpc zba zbo zti zro zha zou zop zwa zty zdk (nI 24) (nI a) (nI b) (nI n) (nI ad) (nI p) = some B' ∧ mR g Sg B' (mc_pv 24 a ad 0 p ba bo ti ro rg mm dk cs) ∧ mF g (zmem, zreg, zmd, zpc, zba, zbo, zti, zro, zha, zou, zop, zwa, zty, zdk) B' := by
  obtain ⟨b1, b2, b3, b4, b5, b6, b7, b8, b9, b10, b11⟩ := h
  have ea := b2 a ha
  have eb := b2 b hb
  have la := hr a
  have l8 : rg a % 8 < 8 := Nat.mod_lt _ (by decide)
  obtain ⟨ydk, t1, t2, t3⟩ := m_l24 (zreg := zreg) (zmd := zmd) (zpc := zpc) (zbo := zbo) (zti := zti) (zro := zro) (zou := zou) (zop := zop) (zwa := zwa) (zty := zty) (s := rg a % 8 * 16) hg b5 hS had h65 (by omega) b1 16 0 65536 zdk (by omega) (by omega) (by rw [cpy_end]; exact b11)
  refine ⟨(zmem, zreg, zmd, zpc, zba, zbo, zti, zro, zha, zou, zop, zwa, zty, ydk), ?_, ⟨b1, b2, b3, b4, b5, b6, b7, b8, b9, b10, t2⟩, ⟨fo_r, fo_r, fs_r, fs_r, fs_r, fs_r, fs_r, fs_r, fs_r, fs_r, fo_r, fs_r, fo_r, t3⟩⟩
  rw [show nI 0 = (0 : Int32) from rfl] at t1
  unfold f_MD_does f_MD_rest
  simp only [if_pos (cg hg), nI_clamp (show g < 2 ^ 31 by omega), x8, nI_add, if_pos ((ck_nI (n := 8 * g + a) (N := 24) (by omega)).mpr (by omega)), if_pos ((ck_nI (n := 8 * g + b) (N := 24) (by omega)).mpr (by omega)), nI_clamp (show 8 * g + a < 2 ^ 31 by omega), nI_clamp (show 8 * g + b < 2 ^ 31 by omega), ea, eb, if_neg (show ¬ nI 24 = (0 : Int32) by decide), if_neg (show ¬ nI 24 = (1 : Int32) by decide), if_neg (show ¬ nI 24 = (2 : Int32) by decide), if_neg (show ¬ nI 24 = (3 : Int32) by decide), if_neg (show ¬ nI 24 = (4 : Int32) by decide), if_neg (show ¬ nI 24 = (5 : Int32) by decide), if_neg (show ¬ nI 24 = (6 : Int32) by decide), if_neg (show ¬ nI 24 = (7 : Int32) by decide), if_neg (show ¬ nI 24 = (8 : Int32) by decide), if_neg (show ¬ nI 24 = (9 : Int32) by decide), if_neg (show ¬ nI 24 = (10 : Int32) by decide), if_neg (show ¬ nI 24 = (11 : Int32) by decide), if_neg (show ¬ nI 24 = (12 : Int32) by decide), if_neg (show ¬ nI 24 = (13 : Int32) by decide), if_neg (show ¬ nI 24 = (14 : Int32) by decide), if_neg (show ¬ nI 24 = (15 : Int32) by decide), if_neg (show ¬ nI 24 = (16 : Int32) by decide), if_neg (show ¬ nI 24 = (17 : Int32) by decide), if_neg (show ¬ nI 24 = (18 : Int32) by decide), if_neg (show ¬ nI 24 = (19 : Int32) by decide), if_neg (show ¬ nI 24 = (20 : Int32) by decide), if_neg (show ¬ nI 24 = (21 : Int32) by decide), if_neg (show ¬ nI 24 = (22 : Int32) by decide), x128, r8 (show rg a < 2 ^ 31 by omega), x16, nI_add, Nat.mul_comm 16 (rg a % 8), t1, Option.bind_some]
end MMC
