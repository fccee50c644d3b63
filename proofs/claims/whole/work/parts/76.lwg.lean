/-! LOAD: refused calls -/
section LWG
theorem ld_args {tl l1 l9 : Nat} {p1 p2 p3 p4 hlf hll shr sft sfl slc suc zat zen zln zlb zf zfl zit zad zms zg zv zvf zvs lat len lor laa lbb lnu : Int32} {llb lwa : Int64} {wN swd sla sua suL ltx z zw md zth zsz zdp zmem zreg zmd zpc zba zbo zti zro zha zst zou zwa zdk lF lS lA : Nat → Int32} {slb sul : Nat → Int64} (htl : tl ≤ 3000) : (f_GT_loada l1 wN (nI tl) hlf hll shr sft sfl slc suc swd slb sla sul sua suL l9 lat len llb lor laa lbb lnu lwa ltx p1 p2 p3 p4 = some ((-2), nI tl, hlf, hll, shr, sft, sfl, slc, suc, swd, slb, sla, sul, sua, suL, l9, lat, len, llb, lor, laa, lbb, lnu, lwa) ∧ f_MD_load (nI tl) zat zen zln zlb zf zfl zit zad zms zg zv zvf zvs z zth zsz zdp zmem zreg zmd zpc zba zbo zti zro zha zst zou zwa zdk zw lF lS lA md p1 p2 p3 p4 = some ((-2), nI tl, zat, zen, zln, zlb, zf, zfl, zit, zad, zms, zg, zv, zvf, zvs, zth, zsz, zdp, zmem, zreg, zmd, zpc, zba, zbo, zti, zro, zha, zst, zou, zwa, zdk, lF, lS, lA, md)) ∨ ∃ g Sg d n, g < 3 ∧ p1 = nI g ∧ 64 ≤ Sg ∧ Sg ≤ 1024 ∧ p2 = nI Sg ∧ d ≤ 2 ∧ p3 = nI d ∧ n ≤ tl ∧ p4 = nI n := by
  by_cases h1 : p1 < 0 ∨ 2 < p1
  · left
    constructor
    · have e : f_GT_isGuest p1 = some 0 := by
        unfold f_GT_isGuest
        by_cases q : p1 < 0
        · rw [if_pos q]
        · obtain ⟨n, hn, rfl⟩ := (i32_c p1).resolve_left q
          have := (nIg_k (k := 2) (x := (2 : Int32)) (by decide) hn rfl).mp (h1.resolve_left q)
          rw [if_neg q, if_pos ((nIn_3 hn).mpr (by omega))]
      unfold f_GT_loada
      rw [e, Option.bind_some, if_pos rfl]
    · unfold f_MD_load
      rw [in0 h1, Option.bind_some, if_pos rfl]
  have h1a : ¬ p1 < 0 := fun q => h1 (Or.inl q)
  have h1b : ¬ 2 < p1 := fun q => h1 (Or.inr q)
  obtain ⟨g, hg, rfl⟩ := (i32_c p1).resolve_left h1a
  have hg3 : g < 3 := by
    by_cases q : g < 3
    · exact q
    · exact absurd ((nIg_k (k := 2) (x := (2 : Int32)) (by decide) hg rfl).mpr (by omega)) h1b
  have eG : f_GT_isGuest (nI g) = some 1 := by
    unfold f_GT_isGuest
    rw [if_neg h1a, if_neg (fun q => by have := (nIn_3 hg).mp q; omega)]
  have eM : f_MD_in (nI g) 0 2 = some 1 := in1 h1a h1b
  by_cases h2 : p2 < 64 ∨ 1024 < p2
  · left
    constructor
    · unfold f_GT_loada
      rw [eG, Option.bind_some, if_neg (show ¬ (1 : Int32) = 0 by decide)]
      by_cases q : p2 < 64
      · rw [if_pos q]
      · have q2 := Int32.not_le.mpr (h2.resolve_left q)
        rw [if_neg q, if_neg q2]
    · unfold f_MD_load
      rw [eM, Option.bind_some, if_neg (show ¬ (1 : Int32) = 0 by decide), in0 h2, Option.bind_some, if_pos rfl]
  have h2a : ¬ p2 < 64 := fun q => h2 (Or.inl q)
  have h2b : ¬ 1024 < p2 := fun q => h2 (Or.inr q)
  have h20 : ¬ p2 < 0 := by
    intro q
    apply h2a
    rw [Int32.lt_iff_toInt_lt] at q ⊢
    have e1 : (0 : Int32).toInt = 0 := by decide
    have e2 : (64 : Int32).toInt = 64 := by decide
    omega
  obtain ⟨Sg, hs, rfl⟩ := (i32_c p2).resolve_left h20
  have hs1 : 64 ≤ Sg := by
    by_cases q : 64 ≤ Sg
    · exact q
    · exact absurd ((nIl_64 hs).mpr (by omega)) h2a
  have hs2 : Sg ≤ 1024 := by
    by_cases q : Sg ≤ 1024
    · exact q
    · exact absurd ((nIg_k (k := 1024) (x := (1024 : Int32)) (by decide) hs rfl).mpr (by omega)) h2b
  have h2c : nI Sg ≤ (1024 : Int32) := Int32.not_lt.mp h2b
  have eM2 : f_MD_in (nI Sg) 64 1024 = some 1 := in1 h2a h2b
  by_cases h3 : p3 < 0 ∨ 2 < p3
  · left
    constructor
    · unfold f_GT_loada
      rw [eG, Option.bind_some, if_neg (show ¬ (1 : Int32) = 0 by decide), if_neg h2a, if_pos h2c]
      by_cases q : p3 < 0
      · rw [if_pos q]
      · rw [if_neg q, if_pos (h3.resolve_left q)]
    · unfold f_MD_load
      rw [eM, Option.bind_some, if_neg (show ¬ (1 : Int32) = 0 by decide), eM2, Option.bind_some, if_neg (show ¬ (1 : Int32) = 0 by decide), in0 h3, Option.bind_some, if_pos rfl]
  have h3a : ¬ p3 < 0 := fun q => h3 (Or.inl q)
  have h3b : ¬ 2 < p3 := fun q => h3 (Or.inr q)
  obtain ⟨d, hd, rfl⟩ := (i32_c p3).resolve_left h3a
  have hd2 : d ≤ 2 := by
    by_cases q : d ≤ 2
    · exact q
    · exact absurd ((nIg_k (k := 2) (x := (2 : Int32)) (by decide) hd rfl).mpr (by omega)) h3b
  have eM3 : f_MD_in (nI d) 0 2 = some 1 := in1 h3a h3b
  by_cases h4 : p4 < 0
  · left
    constructor
    · unfold f_GT_loada
      rw [eG, Option.bind_some, if_neg (show ¬ (1 : Int32) = 0 by decide), if_neg h2a, if_pos h2c, if_neg h3a, if_neg h3b, if_pos h4]
    · unfold f_MD_load
      rw [eM, Option.bind_some, if_neg (show ¬ (1 : Int32) = 0 by decide), eM2, Option.bind_some, if_neg (show ¬ (1 : Int32) = 0 by decide), eM3, Option.bind_some, if_neg (show ¬ (1 : Int32) = 0 by decide), if_pos h4]
  obtain ⟨n, hn, rfl⟩ := (i32_c p4).resolve_left h4
  by_cases h5 : n ≤ tl
  · exact Or.inr ⟨g, Sg, d, n, hg3, rfl, hs1, hs2, rfl, hd2, rfl, h5, rfl⟩
  · have h5' : ¬ nI n ≤ nI tl := fun q => h5 ((nI_leI hn (by omega)).mp q)
    left
    constructor
    · unfold f_GT_loada
      rw [eG, Option.bind_some, if_neg (show ¬ (1 : Int32) = 0 by decide), if_neg h2a, if_pos h2c, if_neg h3a, if_neg h3b, if_neg h4, if_neg h5']
    · unfold f_MD_load
      rw [eM, Option.bind_some, if_neg (show ¬ (1 : Int32) = 0 by decide), eM2, Option.bind_some, if_neg (show ¬ (1 : Int32) = 0 by decide), eM3, Option.bind_some, if_neg (show ¬ (1 : Int32) = 0 by decide), if_neg h4, if_neg h5']
/-- the arguments are good -/
theorem ld_okc {tl g Sg d n : Nat} (htl : tl ≤ 3000) (hg : g < 3) (h1 : 64 ≤ Sg) (h2 : Sg ≤ 1024) (hd : d ≤ 2) (hn : n ≤ tl) : f_GT_isGuest (nI g) = some 1 ∧ ¬ nI Sg < (64 : Int32) ∧ nI Sg ≤ (1024 : Int32) ∧ ¬ nI d < (0 : Int32) ∧ ¬ (2 : Int32) < nI d ∧ ¬ nI n < (0 : Int32) ∧ nI n ≤ nI tl := by
  refine ⟨?_, fun q => by have := (nIl_64 (by omega)).mp q; omega, (nIm_1024 (by omega)).mpr h2, nI_pos (by omega), fun q => by have := (nIg_k (k := 2) (x := (2 : Int32)) (by decide) (by omega) rfl).mp q; omega, nI_pos (by omega), (nI_leI (by omega) (by omega)).mpr hn⟩
  unfold f_GT_isGuest
  rw [if_neg (nI_pos (by omega)), if_neg (fun q => by have := (nIn_3 (by omega)).mp q; omega)]
theorem cnG_u {hgs : Nat → Option Nat} {g a : Nat} (hg : g < 3) : cnG (va_up hgs g (some a)) = if hgs g = none then cnG hgs + 1 else cnG hgs := by
  have e : g = 0 ∨ g = 1 ∨ g = 2 := by omega
  unfold cnG va_up
  rcases e with rfl | rfl | rfl
  · simp only [if_true, if_neg (show ¬ (1 : Nat) = 0 by omega), if_neg (show ¬ (2 : Nat) = 0 by omega)]
    repeat' split
    all_goals first | omega | (exfalso; simp_all)
  · simp only [if_true, if_neg (show ¬ (0 : Nat) = 1 by omega), if_neg (show ¬ (2 : Nat) = 1 by omega)]
    repeat' split
    all_goals first | omega | (exfalso; simp_all)
  · simp only [if_true, if_neg (show ¬ (0 : Nat) = 2 by omega), if_neg (show ¬ (1 : Nat) = 2 by omega)]
    repeat' split
    all_goals first | omega | (exfalso; simp_all)
end LWG
