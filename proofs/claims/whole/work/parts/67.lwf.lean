/-! THE LAW: run and type of a guest, class and Model; what stays -/
section LWF
theorem RelG_c {E : jz_E} {k g : Nat} {hgs : Nat → Option Nat} {za za' : Nat → Nat → Int32} {C : va_W} (hz : ∀ j, 2 ≤ j → j ≤ 19 → za' j = za j) (h : RelG E k g hgs za C) : RelG E k g hgs za' C := by
  have em : mB za' = mB za := by
    unfold mB
    rw [hz 5 (by omega) (by omega), hz 6 (by omega) (by omega), hz 7 (by omega) (by omega), hz 8 (by omega) (by omega), hz 9 (by omega) (by omega), hz 10 (by omega) (by omega), hz 11 (by omega) (by omega), hz 12 (by omega) (by omega), hz 13 (by omega) (by omega), hz 15 (by omega) (by omega), hz 16 (by omega) (by omega), hz 17 (by omega) (by omega), hz 18 (by omega) (by omega), hz 19 (by omega) (by omega)]
  rcases h with ⟨h1, h2, h3⟩ | ⟨ad, Sg, d, S, st, R, G, kold, kwai, ksnt, ktyp, ksen, h1, h2, h3, h4, h5, h6, h7, h8, h9, h10, h11⟩
  · exact Or.inl ⟨h1, by rw [hz 2 (by omega) (by omega)]; exact h2, h3⟩
  · exact Or.inr ⟨ad, Sg, d, S, st, R, G, kold, kwai, ksnt, ktyp, ksen, h1, by rw [hz 2 (by omega) (by omega)]; exact h2, h3, h4, h5, by rw [em]; exact h6, by rw [hz 3 (by omega) (by omega)]; exact h7, by rw [hz 4 (by omega) (by omega)]; exact h8, by rw [hz 14 (by omega) (by omega)]; exact h9, h10, h11⟩
/-- another guest stays -/
theorem RelG_f {E : jz_E} {k g h : Nat} {hgs hgs' : Nat → Option Nat} {za za' : Nat → Nat → Int32} {C : va_W} (e : h ≠ g) (hh : hgs' h = hgs h) (f2 : fs g (za 2) (za' 2)) (f3 : fs g (za 3) (za' 3)) (f4 : fs g (za 4) (za' 4)) (f14 : fs g (za 14) (za' 14)) (hF : mF g (mB za) (mB za')) (q : RelG E k h hgs za C) : RelG E k h hgs' za' C := by
  rcases q with ⟨h1, h2, h3⟩ | ⟨ad, Sg, d, S, st, R, G, kold, kwai, ksnt, ktyp, ksen, h1, h2, h3, h4, h5, h6, h7, h8, h9, h10, h11⟩
  · exact Or.inl ⟨hh.trans h1, (f2 h e).trans h2, h3⟩
  · exact Or.inr ⟨ad, Sg, d, S, st, R, G, kold, kwai, ksnt, ktyp, ksen, hh.trans h1, (f2 h e).trans h2, h3, h4, h5, mR_fr e h4.2.2.2.1 hF h6, (f3 h e).trans h7, (f4 h e).trans h8, (f14 h e).trans h9, h10, h11⟩
def rgS (d st S g : Nat) (R : mc_S) (kold kwai ksnt : Int32) (ktyp ksen : Nat → Int32) (p2 : Int32) : Option (Int32 × Int32 × tG) := match R with
  | (md, pc, ba, bo, ti, ro, ha, rg, mm, dk, _) => f_GT_rung (nI d) (nI st) (nI S) (nI md) (nI pc) (nI ba) (nI bo) (rr S ba bo) (nI ti) (bi ro) (bi ha) (nf mm) (nf rg) (nf dk) kold kwai ksnt ktyp ksen (nI g) p2
theorem run_both {g Sg d S st k : Nat} {R G : mc_S} {kold kwai ksnt zme p2 : Int32} {ktyp ksen : Nat → Int32} {za : Nat → Nat → Int32} (hg : g < 3) (h4 : grel d S Sg R G) (h5 : KR kold kwai ksnt ktyp ksen (s_cs R)) (h6 : mR g Sg (mB za) G) (h2 : za 2 g = bi true) (h7 : za 3 g = nI Sg) (h9 : za 14 g = nI st) (h10 : (s_cs G).2.2 ≤ st) (h11 : st ≤ 5000 * k) (hk : k < 600) : ∃ (r zme' : Int32) (st' : Nat) (R' G' : mc_S) (kold' kwai' ksnt' : Int32) (ksen' : Nat → Int32) (B' : tB) (zst' : Nat → Int32), rgS d st S g R kold kwai ksnt ktyp ksen p2 = some (r, nI st', cvG S R' kold' kwai' ksnt' ksen') ∧ f_MD_run zme (za 2) (za 3) (za 5) (za 6) (za 7) (za 8) (za 9) (za 10) (za 11) (za 12) (za 13) (za 14) (za 15) (za 16) (za 17) (za 18) (za 19) (nI g) p2 = some (r, zme', bS B' zst') ∧ grel d S Sg R' G' ∧ KR kold' kwai' ksnt' ktyp ksen' (s_cs R') ∧ mR g Sg B' G' ∧ mF g (mB za) B' ∧ fs g (za 14) zst' ∧ zst' g = nI st' ∧ (s_cs G').2.2 ≤ st' ∧ st' ≤ 5000 * (k + 1) := by
  have SAME : ∀ (hc : p2 < 0 ∨ 5000 < p2), ∃ (r zme' : Int32) (st' : Nat) (R' G' : mc_S) (kold' kwai' ksnt' : Int32) (ksen' : Nat → Int32) (B' : tB) (zst' : Nat → Int32), rgS d st S g R kold kwai ksnt ktyp ksen p2 = some (r, nI st', cvG S R' kold' kwai' ksnt' ksen') ∧ f_MD_run zme (za 2) (za 3) (za 5) (za 6) (za 7) (za 8) (za 9) (za 10) (za 11) (za 12) (za 13) (za 14) (za 15) (za 16) (za 17) (za 18) (za 19) (nI g) p2 = some (r, zme', bS B' zst') ∧ grel d S Sg R' G' ∧ KR kold' kwai' ksnt' ktyp ksen' (s_cs R') ∧ mR g Sg B' G' ∧ mF g (mB za) B' ∧ fs g (za 14) zst' ∧ zst' g = nI st' ∧ (s_cs G').2.2 ≤ st' ∧ st' ≤ 5000 * (k + 1) := by
    intro hc
    refine ⟨-1, zme, st, R, G, kold, kwai, ksnt, ksen, mB za, za 14, ?_, ?_, h4, h5, h6, mF_r, fs_r, h9, h10, by omega⟩
    · obtain ⟨md, pc, ba, bo, ti, ro, ha, rg, mm, dk, cs⟩ := R
      unfold rgS f_GT_rung
      dsimp only
      by_cases q : p2 < 0
      · rw [if_pos q]; rfl
      · obtain ⟨n, hn, rfl⟩ := (i32_c p2).resolve_left q
        have := (nIg_k (k := 5000) (x := (5000 : Int32)) (by decide) hn rfl).mp (hc.resolve_left q)
        rw [if_neg q, if_neg (fun z => by have := (nIm_5000 hn).mp z; omega)]; rfl
    · unfold f_MD_run
      rw [m_is hg h2, Option.bind_some, if_neg (by decide), in0 hc, Option.bind_some, if_pos rfl]
      rfl
  by_cases q0 : p2 < 0
  · exact SAME (Or.inl q0)
  obtain ⟨w, hw, rfl⟩ := (i32_c p2).resolve_left q0
  by_cases q1 : 5000 < w
  · exact SAME (Or.inr ((nIg_k (k := 5000) (x := (5000 : Int32)) (by decide) hw rfl).mpr q1))
  have hw5 : w ≤ 5000 := by omega
  obtain ⟨R', kold', kwai', ksnt', ksen', a1, a2, a3⟩ := q_advance (gsp := nI st) (w := w) h4 h5 (by omega) hw5
  obtain ⟨B', zst', b1, b2, b3, b4, b5⟩ := m_runl hg h4.2.2.1 h4.2.2.2.1 h7 w 65536 0 st (mB za) (za 14) G h6 h4.2.1 (by omega) h9 (by omega) (by omega)
  have hle := rn_le (Sg := Sg) w G
  refine ⟨nI (mc_rn Sg w G).1, nI g, st + (mc_rn Sg w G).1, R', (mc_rn Sg w G).2, kold', kwai', ksnt', ksen', B', zst', ?_, ?_, a2, a3, b2, b3, b5, b4, by omega, by omega⟩
  · obtain ⟨md, pc, ba, bo, ti, ro, ha, rg, mm, dk, cs⟩ := R
    have a1' : b_GU_advance_2 65536 (nI d) (nI st) (nI S) (nI md) (nI pc) (nI ba) (nI bo) (rr S ba bo) (nI ti) (bi ro) (bi ha) (nf mm) (nf rg) (nf dk) kold kwai ksnt ktyp ksen (nI w) (nI 0) = some (nI (mc_rn Sg w G).1, nI st + nI (mc_rn Sg w G).1, cvG S R' kold' kwai' ksnt' ksen') := a1
    rw [show nI 0 = (0 : Int32) from rfl, nI_add] at a1'
    unfold rgS f_GT_rung f_GU_advance
    dsimp only
    rw [if_neg q0, if_pos ((nIm_5000 hw).mpr hw5), a1', Option.bind_some]
  · have b1' : b_MD_run_28 65536 (nI g) (za 3) (za 5) (za 6) (za 7) (za 8) (za 9) (za 10) (za 11) (za 12) (za 13) (za 14) (za 15) (za 16) (za 17) (za 18) (za 19) (nI g) (nI (0 + w)) (nI 0) = some (nI (0 + (mc_rn Sg w G).1), nI g, bS B' zst') := b1
    rw [show nI 0 = (0 : Int32) from rfl, Nat.zero_add, Nat.zero_add] at b1'
    unfold f_MD_run
    rw [m_is hg h2, Option.bind_some, if_neg (by decide), in1 q0 (fun z => by have := (nIg_k (k := 5000) (x := (5000 : Int32)) (by decide) hw rfl).mp z; omega), Option.bind_some, if_neg (by decide)]
    exact b1'
def zaB (za : Nat → Nat → Int32) (B : tB) (zst : Nat → Int32) : Nat → Nat → Int32 := match B with
  | (zmem, zreg, zmd, zpc, zba, zbo, zti, zro, zha, zou, zop, zwa, zty, zdk) => up1 (up1 (up1 (up1 (up1 (up1 (up1 (up1 (up1 (up1 (up1 (up1 (up1 (up1 (up1 za 5 zmem) 6 zreg) 7 zmd) 8 zpc) 9 zba) 10 zbo) 11 zti) 12 zro) 13 zha) 14 zst) 15 zou) 16 zop) 17 zwa) 18 zty) 19 zdk
theorem mB_B {za : Nat → Nat → Int32} {B : tB} {zst : Nat → Int32} : mB (zaB za B zst) = B := by
  obtain ⟨zmem, zreg, zmd, zpc, zba, zbo, zti, zro, zha, zou, zop, zwa, zty, zdk⟩ := B
  rfl
theorem zaB_o {za : Nat → Nat → Int32} {B : tB} {zst : Nat → Int32} : zaB za B zst 1 = za 1 ∧ zaB za B zst 2 = za 2 ∧ zaB za B zst 3 = za 3 ∧ zaB za B zst 4 = za 4 ∧ zaB za B zst 14 = zst ∧ zaB za B zst 20 = za 20 := by
  obtain ⟨zmem, zreg, zmd, zpc, zba, zbo, zti, zro, zha, zou, zop, zwa, zty, zdk⟩ := B
  exact ⟨rfl, rfl, rfl, rfl, rfl, rfl⟩
/-- the relation behind a call that changed one guest -/
theorem Rel_n {E : jz_E} {k g tl : Nat} {T : Nat → Nat} {hlf hll : Int32} {hgs : Nat → Option Nat} {W : Nat → Nat} {zs zs' : Nat → Int32} {za : Nat → Nat → Int32} {GC : Nat → va_W} {B' : tB} {zst' : Nat → Int32} {C : va_W} (h : Rel E k tl T hlf hll hgs W zs za GC) (z0 : zs' 0 = zs 0) (z5 : zs' 5 = zs 5) (z6 : zs' 6 = zs 6) (z7 : zs' 7 = zs 7) (hF : mF g (mB za) B') (hs : fs g (za 14) zst') (hP : RelP E (k + 1) g hgs (zaB za B' zst') C) : Rel E (k + 1) tl T hlf hll hgs W zs' (zaB za B' zst') (up1 GC g C) := by
  obtain ⟨h1, h2, h3, h4, h5, h6, h7, h8⟩ := h
  obtain ⟨o1, o2, o3, o4, o14, o20⟩ := zaB_o (za := za) (B := B') (zst := zst')
  refine ⟨h1, h2, by rw [o1]; exact h3, by rw [z0]; exact h4, by rw [z5, z6, z7]; exact h5, h6, by rw [o20]; exact h7, fun h hh => ?_⟩
  by_cases e : h = g
  · subst e
    have : up1 GC h C h = C := if_pos rfl
    rw [this]
    exact Or.inr hP
  · have : up1 GC g C h = GC h := if_neg e
    rw [this]
    exact RelG_k (RelG_f e rfl (by rw [o2]; exact fs_r) (by rw [o3]; exact fs_r) (by rw [o4]; exact fs_r) (by rw [o14]; exact hs) (by rw [mB_B]; exact hF) (h8 h hh))
/-- type -/
theorem type_both {g Sg d S st k : Nat} {R G : mc_S} {kold kwai ksnt p2 : Int32} {ktyp ksen : Nat → Int32} {za : Nat → Nat → Int32} (hg : g < 3) (h4 : grel d S Sg R G) (h5 : KR kold kwai ksnt ktyp ksen (s_cs R)) (h6 : mR g Sg (mB za) G) (h2 : za 2 g = bi true) : ∃ (r : Int32) (R' G' : mc_S) (kwai' : Int32) (ktyp' ywa yty : Nat → Int32), f_GT_typeg kold kwai ktyp (nI g) p2 = some (r, kwai', ktyp') ∧ f_MD_type (za 2) (za 17) (za 18) (nI g) p2 = some (r, ywa, yty) ∧ (∃ cs', R' = s_wc R cs') ∧ grel d S Sg R' G' ∧ KR kold kwai' ksnt ktyp' ksen (s_cs R') ∧ mR g Sg (za 5, za 6, za 7, za 8, za 9, za 10, za 11, za 12, za 13, za 15, za 16, ywa, yty, za 19) G' ∧ mF g (mB za) (za 5, za 6, za 7, za 8, za 9, za 10, za 11, za 12, za 13, za 15, za 16, ywa, yty, za 19) ∧ (s_cs G').2.2 = (s_cs G).2.2 := by
  have hcs := (g_turn h4).2.2
  have SAME : ∀ (hc : p2 < 0 ∨ 255 < p2), ∃ (r : Int32) (R' G' : mc_S) (kwai' : Int32) (ktyp' ywa yty : Nat → Int32), f_GT_typeg kold kwai ktyp (nI g) p2 = some (r, kwai', ktyp') ∧ f_MD_type (za 2) (za 17) (za 18) (nI g) p2 = some (r, ywa, yty) ∧ (∃ cs', R' = s_wc R cs') ∧ grel d S Sg R' G' ∧ KR kold kwai' ksnt ktyp' ksen (s_cs R') ∧ mR g Sg (za 5, za 6, za 7, za 8, za 9, za 10, za 11, za 12, za 13, za 15, za 16, ywa, yty, za 19) G' ∧ mF g (mB za) (za 5, za 6, za 7, za 8, za 9, za 10, za 11, za 12, za 13, za 15, za 16, ywa, yty, za 19) ∧ (s_cs G').2.2 = (s_cs G).2.2 := by
    intro hc
    refine ⟨0, R, G, kwai, ktyp, za 17, za 18, ?_, m_type0 (Or.inr ⟨m_is hg h2, hc⟩), ⟨s_cs R, ?_⟩, h4, h5, h6, mF_r, rfl⟩
    · unfold f_GT_typeg
      by_cases q : p2 < 0
      · rw [if_pos q]
      · obtain ⟨n, hn, rfl⟩ := (i32_c p2).resolve_left q
        have := (nIg_k (k := 255) (x := (255 : Int32)) (by decide) hn rfl).mp (hc.resolve_left q)
        rw [if_neg q, if_neg (fun z => by have := (nIm_255 hn).mp z; omega)]
    · obtain ⟨md, pc, ba, bo, ti, ro, ha, rg, mm, dk, cs⟩ := R
      rfl
  by_cases q0 : p2 < 0
  · exact SAME (Or.inl q0)
  obtain ⟨w, hw, rfl⟩ := (i32_c p2).resolve_left q0
  by_cases q1 : 255 < w
  · exact SAME (Or.inr ((nIg_k (k := 255) (x := (255 : Int32)) (by decide) hw rfl).mpr q1))
  obtain ⟨r, kw', kt', er, t1, t2⟩ : ∃ (r kw' : Int32) (kt' : Nat → Int32), r = (if (s_cs R).1.length < 100 then 1 else 0) ∧ f_CO_isTaken kold kwai ktyp (nI w) = some (r, kw', kt') ∧ KR kold kw' ksnt kt' ksen ((if (s_cs R).1.length < 100 then (s_cs R).1 ++ [w] else (s_cs R).1), (s_cs R).2) := by
    obtain ⟨t1, t2⟩ := q_isTaken (b := w) h5 (by omega)
    exact ⟨_, _, _, rfl, t1, t2⟩
  have hcR : cR g (za 15) (za 16) (za 17) (za 18) (s_cs G) := by
    obtain ⟨md, pc, ba, bo, ti, ro, ha, rg, mm, dk, cs⟩ := G
    exact h6.2.2.2.2.2.2.2.2.2.1
  obtain ⟨ywa, yty, u1, u2, u3, u4⟩ := m_type (b := w) hg h2 (by omega) hcR
  have hb256 : ∀ x ∈ (if (s_cs R).1.length < 100 then (s_cs R).1 ++ [w] else (s_cs R).1), x < 256 := by
    intro x hx
    have hall : ∀ x ∈ (s_cs R).1, x < 256 := by
      obtain ⟨o, -, -, -, -, -, -, hb, -⟩ := h5
      exact hb
    split at hx
    · rcases List.mem_append.mp hx with y | y
      · exact hall x y
      · rw [List.mem_singleton.mp y]; omega
    · exact hall x hx
  refine ⟨r, s_wc R ((if (s_cs R).1.length < 100 then (s_cs R).1 ++ [w] else (s_cs R).1), (s_cs R).2), s_wc G ((if (s_cs R).1.length < 100 then (s_cs R).1 ++ [w] else (s_cs R).1), (s_cs R).2), kw', kt', ywa, yty, ?_, ?_, ⟨_, rfl⟩, g_wc h4 hb256, ?_, ?_, ?_, ?_⟩
  · unfold f_GT_typeg
    rw [if_neg q0, if_pos ((nIm_255 hw).mpr (by omega)), t1, Option.bind_some]
  · rw [u1, er, hcs]
  · obtain ⟨md, pc, ba, bo, ti, ro, ha, rg, mm, dk, cs⟩ := R
    exact t2
  · rw [hcs]
    obtain ⟨md, pc, ba, bo, ti, ro, ha, rg, mm, dk, cs⟩ := G
    obtain ⟨b1, b2, b3, b4, b5, b6, b7, b8, b9, b10, b11⟩ := h6
    exact ⟨b1, b2, b3, b4, b5, b6, b7, b8, b9, u2, b11⟩
  · exact ⟨fo_r, fo_r, fs_r, fs_r, fs_r, fs_r, fs_r, fs_r, fs_r, fs_r, fo_r, u3, u4, fo_r⟩
  · rw [hcs]
    obtain ⟨md, pc, ba, bo, ti, ro, ha, rg, mm, dk, cs⟩ := G
    rfl
end LWF
