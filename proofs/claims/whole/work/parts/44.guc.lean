/-! THE CLASS'S GUEST: what is told of it -/
section GUC
theorem i32_c (p : Int32) : p < 0 ∨ ∃ n, n < 2 ^ 31 ∧ p = nI n := by
  by_cases h : p < 0
  · exact Or.inl h
  · refine Or.inr ⟨p.toInt.toNat, ?_, ?_⟩
    · have := p.toInt_lt
      omega
    · have h0 : 0 ≤ p.toInt := by
        rw [Int32.lt_iff_toInt_lt] at h
        have : (0 : Int32).toInt = 0 := by decide
        omega
      have h1 := p.toInt_lt
      apply Int32.toInt_inj.mp
      show _ = (Int32.ofNat p.toInt.toNat).toInt
      rw [Int32.toInt_ofNat']
      have : ((p.toInt.toNat : Nat) : Int) = p.toInt := by omega
      rw [this]
      have hz : Int32.size = 4294967296 := rfl
      exact (Int.bmod_eq_of_le (by omega) (by omega)).symm
theorem sx_see {Sg md' pc' ba' bo' ti' md pc ba bo ti : Nat} {ro' ha' ro ha : Bool} {rg' m dk' rg mm dk : Nat → Nat} {cs' cs : mc_K} (h : sx Sg (md', pc', ba', bo', ti', ro', ha', rg', m, dk', cs') (md, pc, ba, bo, ti, ro, ha, rg, mm, dk, cs)) : ro' = ro ∧ ha' = ha ∧ rg' = rg ∧ dk' = dk ∧ cs' = cs ∧ (∀ i, i < Sg → m (410 + i) = mm i) ∧ m 10 = md ∧ m 11 = ba ∧ m 12 = bo ∧ (md = 0 → m 13 = ti) ∧ (md ≠ 0 → ti' = ti ∧ md' = 1) ∧ (ha = true → m 1 = pc) ∧ (ha = false → pc' = pc) := by
  rcases h with h | h
  · obtain ⟨h1, h2, h3, h4, h5, h6, h7, h8, h9, h10, h11, h12, h13, h14⟩ := h
    obtain ⟨k1, k2, k3, k4, k5, k6, k7, k8⟩ := h14
    refine ⟨h6, by rw [h7, h8], h9, h10, h11, k8, k2, k3, k4, k5, fun q => ⟨by rw [h5, if_neg q], h1⟩, fun q => ?_, fun _ => h2⟩
    rw [h8] at q; cases q
  · obtain ⟨h1, h2, h3, h4, h5, h6, h7, h8, h9, h10, k1, k2, k3, k4, k5, k6, k7, k8⟩ := h
    refine ⟨h6, by rw [h2, h3], h7, h8, h9, k8, by rw [k2, h4], k3, k4, fun _ => k5 rfl, fun q => absurd h4 q, fun _ => h10, fun q => ?_⟩
    rw [h3] at q; cases q
theorem g_see {d S Sg md' pc' ba' bo' ti' md pc ba bo ti : Nat} {ro' ha' ro ha : Bool} {rg' m dk' rg mm dk : Nat → Nat} {cs' cs : mc_K} (h : grel d S Sg (md', pc', ba', bo', ti', ro', ha', rg', m, dk', cs') (md, pc, ba, bo, ti, ro, ha, rg, mm, dk, cs)) : ro' = ro ∧ ha' = ha ∧ rg' = rg ∧ dk' = dk ∧ cs' = cs ∧ (∀ i, i < Sg → m (d * 410 + i) = mm i) ∧ (d = 0 ∧ md' = md ∧ pc' = pc ∧ ba' = ba ∧ bo' = bo ∧ ti' = ti ∨ d ≠ 0 ∧ m (d * 410 - 410 + 10) = md ∧ m (d * 410 - 410 + 11) = ba ∧ m (d * 410 - 410 + 12) = bo ∧ (md = 0 → m (d * 410 - 410 + 13) = ti) ∧ (md ≠ 0 → ti' = ti) ∧ (ha = true → m (d * 410 - 410 + 1) = pc) ∧ (ha = false → pc' = pc)) := by
  obtain ⟨h1, h2, h3, h4, h5⟩ := h
  rcases h5 with ⟨rfl, rfl, h5⟩ | ⟨rfl, rfl, hx⟩ | ⟨rfl, rfl, L, hL, hx, hy⟩
  · simp only [Prod.mk.injEq] at h5
    obtain ⟨rfl, rfl, rfl, rfl, rfl, rfl, rfl, rfl, rfl, rfl, rfl⟩ := h5
    exact ⟨rfl, rfl, rfl, rfl, rfl, fun i _ => by rw [Nat.zero_mul, Nat.zero_add], Or.inl ⟨rfl, rfl, rfl, rfl, rfl, rfl⟩⟩
  · obtain ⟨a1, a2, a3, a4, a5, a6, a7, a8, a9, a10, a11, a12, a13⟩ := sx_see hx
    exact ⟨a1, a2, a3, a4, a5, a6, Or.inr ⟨by omega, a7, a8, a9, a10, fun q => (a11 q).1, a12, a13⟩⟩
  · obtain ⟨mdL, pcL, baL, boL, tiL, roL, haL, rgL, mL, dkL, csL⟩ := L
    obtain ⟨a1, a2, a3, a4, a5, a6, a7, a8, a9, a10, a11, a12, a13⟩ := sx_see hx
    obtain ⟨b1, b2, b3, b4, b5, b6, b7, b8, b9, b10, b11, b12, b13⟩ := sx_see hy
    refine ⟨b1.trans a1, b2.trans a2, b3.trans a3, b4.trans a4, b5.trans a5, fun i hi => ?_, Or.inr ⟨by omega, ?_, ?_, ?_, fun q => ?_, fun q => ?_, fun q => ?_, fun q => ?_⟩⟩
    · have := b6 (410 + i) (by omega)
      rw [show 2 * 410 + i = 410 + (410 + i) by omega, this]
      exact a6 i hi
    · exact (b6 10 (by omega)).trans a7
    · exact (b6 11 (by omega)).trans a8
    · exact (b6 12 (by omega)).trans a9
    · exact (b6 13 (by omega)).trans (a10 q)
    · obtain ⟨c1, c2⟩ := a11 q
      exact (b11 (by omega)).1.trans c1
    · exact (b6 1 (by omega)).trans (a12 q)
    · exact (b13 (a2.trans q)).trans (a13 q)
/-- a change of the console alone -/
def s_wc (s : mc_S) (c : mc_K) : mc_S := match s with
  | (md, pc, ba, bo, ti, ro, ha, rg, mm, dk, _) => (md, pc, ba, bo, ti, ro, ha, rg, mm, dk, c)
theorem wfs_wc {S : Nat} {s : mc_S} {c : mc_K} (h : wfs S s) (hc : ∀ b ∈ c.1, b < 256) : wfs S (s_wc s c) := by
  obtain ⟨md, pc, ba, bo, ti, ro, ha, rg, mm, dk, cs⟩ := s
  exact ⟨h.1, h.2.1, hc⟩
theorem sx_wc {Sg : Nat} {R G : mc_S} {c : mc_K} (h : sx Sg R G) : sx Sg (s_wc R c) (s_wc G c) := by
  obtain ⟨md', pc', ba', bo', ti', ro', ha', rg', m, dk', cs'⟩ := R
  obtain ⟨md, pc, ba, bo, ti, ro, ha, rg, mm, dk, cs⟩ := G
  rcases h with h | h
  · obtain ⟨h1, h2, h3, h4, h5, h6, h7, h8, h9, h10, h11, h12, h13, h14⟩ := h
    exact Or.inl ⟨h1, h2, h3, h4, h5, h6, h7, h8, h9, h10, rfl, h12, h13, h14⟩
  · obtain ⟨h1, h2, h3, h4, h5, h6, h7, h8, h9, h10, k⟩ := h
    exact Or.inr ⟨h1, h2, h3, h4, h5, h6, h7, h8, rfl, h10, k⟩
theorem g_wc {d S Sg : Nat} {R G : mc_S} {c : mc_K} (h : grel d S Sg R G) (hc : ∀ b ∈ c.1, b < 256) : grel d S Sg (s_wc R c) (s_wc G c) := by
  obtain ⟨h1, h2, h3, h4, h5⟩ := h
  refine ⟨wfs_wc h1 hc, wfs_wc h2 hc, h3, h4, ?_⟩
  rcases h5 with ⟨rfl, rfl, rfl⟩ | ⟨rfl, rfl, hx⟩ | ⟨rfl, rfl, L, hL, hx, hy⟩
  · exact Or.inl ⟨rfl, rfl, rfl⟩
  · exact Or.inr (Or.inl ⟨rfl, rfl, sx_wc hx⟩)
  · exact Or.inr (Or.inr ⟨rfl, rfl, s_wc L c, wfs_wc hL hc, sx_wc hx, sx_wc hy⟩)
/-- a byte is typed -/
theorem q_isTaken {kold kwai ksnt : Int32} {ktyp ksen : Nat → Int32} {cs : mc_K} {b : Nat} (h : KR kold kwai ksnt ktyp ksen cs) (hb : b < 256) : f_CO_isTaken kold kwai ktyp (nI b) = some (if cs.1.length < 100 then 1 else 0, nI (if cs.1.length < 100 then cs.1.length + 1 else cs.1.length), if cs.1.length < 100 then upd ktyp ((kold + kwai) - (kold + kwai) / 100 * 100).toNatClampNeg (nI b) else ktyp) ∧ KR kold (nI (if cs.1.length < 100 then cs.1.length + 1 else cs.1.length)) ksnt (if cs.1.length < 100 then upd ktyp ((kold + kwai) - (kold + kwai) / 100 * 100).toNatClampNeg (nI b) else ktyp) ksen (if cs.1.length < 100 then cs.1 ++ [b] else cs.1, cs.2) := by
  have hh := h
  obtain ⟨o, ho, rfl, hw, rfl, rfl, rfl, hbs, ht⟩ := h
  have er : (nI o + nI cs.1.length) - (nI o + nI cs.1.length) / 100 * 100 = nI ((o + cs.1.length) % 100) := by
    rw [nI_add]
    exact pk_rem (a := o + cs.1.length) (d := 100) (by omega) (by omega) (by omega)
  unfold f_CO_isTaken
  rw [er, ic (nIl_100 (by omega))]
  by_cases hl : cs.1.length < 100
  · rw [if_pos hl, if_pos hl, if_pos hl, if_pos hl, if_pos hl, if_pos ((ck_nI (by omega)).mpr (by omega)), nI_1]
    refine ⟨rfl, o, ho, rfl, ?_, ?_, rfl, rfl, ?_, ?_⟩
    · show (cs.1 ++ [b]).length ≤ 100
      rw [List.length_append]
      exact hl
    · show nI (cs.1.length + 1) = nI (cs.1 ++ [b]).length
      rw [List.length_append]
      rfl
    · intro x hx
      rcases List.mem_append.mp hx with q | q
      · exact hbs x q
      · rw [List.mem_singleton.mp q]; exact hb
    · intro j hj
      have hj' : j < cs.1.length + 1 := by
        have : (cs.1 ++ [b]).length = cs.1.length + 1 := by rw [List.length_append]; rfl
        have hj2 : j < (cs.1 ++ [b]).length := hj
        omega
      show upd ktyp (nI ((o + cs.1.length) % 100)).toNatClampNeg (nI b) ((o + j) % 100) = nI ((cs.1 ++ [b]).getD j 0)
      rw [nI_clamp (by omega)]
      unfold upd
      by_cases e : j = cs.1.length
      · subst e
        rw [if_pos rfl]
        simp [List.getD_eq_getElem?_getD]
      · rw [if_neg (by omega), ht j (by omega)]
        simp only [List.getD_eq_getElem?_getD]
        rw [List.getElem?_append_left (by omega)]
  · rw [if_neg hl, if_neg hl, if_neg hl, if_neg hl, if_neg hl]
    exact ⟨rfl, hh⟩
/-- the answers of look -/
def t_rg (rg : Nat → Nat) (p : Int32) : Int32 := if p < 20 then -1 else if 27 < p then -1 else nI (rg (p - 20).toNatClampNeg)
def t_look (Sg d : Nat) (gsp : Int32) (G : mc_S) (p : Int32) : Int32 := match G with
  | (md, pc, ba, bo, ti, ro, ha, rg, _, _, cs) => if p = 0 then nI md else if p = 1 then nI pc else if p = 2 then nI ba else if p = 3 then nI bo else if p = 4 then nI ti else if p = 5 then bi ro else if p = 6 then bi ha else if p = 7 then gsp else if p = 8 then nI cs.2.2 else if p = 9 then nI cs.1.length else if p = 10 then nI Sg else if p = 11 then nI d else t_rg rg p
theorem q_reg {rg : Nat → Nat} {p : Int32} : f_MA_register (nf rg) (p - 20) = some (t_rg rg p) := by
  unfold f_MA_register t_rg
  rcases i32_c p with h | ⟨n, hn, rfl⟩
  · rw [if_pos (show p < 20 from by
      rw [Int32.lt_iff_toInt_lt] at h ⊢
      have e1 : (0 : Int32).toInt = 0 := by decide
      have e2 : (20 : Int32).toInt = 20 := by decide
      omega)]
    by_cases h2 : p - 20 < 0
    · rw [if_pos h2]
    · rw [if_neg h2, if_neg]
      intro h3
      rw [Int32.lt_iff_toInt_lt] at h h2 h3
      have e1 : (0 : Int32).toInt = 0 := by decide
      have e2 : (20 : Int32).toInt = 20 := by decide
      have e3 : (8 : Int32).toInt = 8 := by decide
      have e4 := Int32.toInt_sub p 20
      have e5 := p.le_toInt
      rw [e2] at e4
      simp only [Int.bmod] at e4
      omega
  · by_cases h20 : n < 20
    · rw [if_pos ((nIl_20 hn).mpr h20), if_pos]
      rw [Int32.lt_iff_toInt_lt, Int32.toInt_sub, nI_toInt hn]
      have e1 : (0 : Int32).toInt = 0 := by decide
      have e2 : (20 : Int32).toInt = 20 := by decide
      rw [e1, e2, Int.bmod_eq_of_le (by omega) (by omega)]
      omega
    · rw [if_neg (fun q => h20 ((nIl_20 hn).mp q))]
      have e : nI n - 20 = nI (n - 20) := by
        have : nI n = nI (n - 20) + 20 := by
          rw [show (20 : Int32) = nI 20 from rfl, nI_add]
          congr 1; omega
        rw [this]
        exact Int32.add_sub_cancel _ _
      rw [e, if_neg (fun q => by have := (nIl_0 (by omega)).mp q; omega), ic (nIl_8 (by omega)), ic (show (27 : Int32) < nI n ↔ 27 < n from nI_ltI (a := 27) (by decide) hn)]
      by_cases h8 : n < 28
      · rw [if_pos (show n - 20 < 8 by omega), if_neg (show ¬ 27 < n by omega), if_pos ((ck_nI (by omega)).mpr (show n - 20 < 8 by omega)), nf_at]
      · rw [if_neg (show ¬ n - 20 < 8 by omega), if_pos (show 27 < n by omega)]
theorem q_kept {d a : Nat} {m : Nat → Nat} (hd : d ≠ 0) (hd2 : d ≤ 2) (ha : a < 410) : f_GU_kept (nI (d * 410)) (nf m) (nI a) = some (nI (m (d * 410 - 410 + a))) := by
  have e : nI (d * 410) - 410 + nI a = nI (d * 410 - 410 + a) := by
    have e1 : nI (d * 410 - 410) + nI 410 = nI (d * 410) := by
      rw [nI_add, show d * 410 - 410 + 410 = d * 410 by omega]
    have e2 : nI 410 = (410 : Int32) := rfl
    rw [e2] at e1
    rw [← e1, Int32.add_sub_cancel, nI_add]
  unfold f_GU_kept
  rw [e, if_pos ((nIn_0 (by omega)).mpr (by omega)), if_pos ((ck_nI (by omega)).mpr (by omega)), nI_clamp (by omega), nf_at]
theorem bi_if (b : Bool) : (if bi b = (0 : Int32) then some (0 : Int32) else some 1) = some (bi b) := by
  cases b <;> rfl
theorem q_told {d S Sg md' pc' ba' bo' ti' md pc ba bo ti : Nat} {ro' ha' ro ha : Bool} {rg' m dk' rg mm dk : Nat → Nat} {cs' cs : mc_K} {gsp kold kwai ksnt p : Int32} {ktyp ksen : Nat → Int32} (h : grel d S Sg (md', pc', ba', bo', ti', ro', ha', rg', m, dk', cs') (md, pc, ba, bo, ti, ro, ha, rg, mm, dk, cs)) (hK : KR kold kwai ksnt ktyp ksen cs') : f_GU_told (nI Sg) (nI d) (nI (d * 410)) gsp (nI md') (nI pc') (nI ba') (nI bo') (nI ti') (bi ro') (bi ha') (nf m) (nf rg') kwai ksnt p = some (t_look Sg d gsp (md, pc, ba, bo, ti, ro, ha, rg, mm, dk, cs) p) := by
  have hd := g_d h
  have hmd : md < 2 := h.2.1.1.2.1
  obtain ⟨rfl, rfl, rfl, rfl, rfl, h6, h7⟩ := g_see h
  obtain ⟨o, ho, -, hw, rfl, rfl, -, -, -⟩ := hK
  unfold f_GU_told t_look
  dsimp only
  rw [q_reg, bi_if, bi_if]
  unfold f_GU_timer f_GU_pc f_GU_mode
  rcases h7 with ⟨rfl, rfl, rfl, rfl, rfl, rfl⟩ | ⟨h0, k1, k2, k3, k4, k5, k6, k7⟩
  · have e0 : nI 0 = (0 : Int32) := rfl
    have e1 : (0 : Int32) ≤ 0 := by decide
    simp only [e0, if_true, e1, Option.bind_some, ← apply_ite some]
  · have n0 : ¬ nI d = (0 : Int32) := fun q => h0 ((nIe_0 (by omega)).mp q)
    have n1 : ¬ nI d ≤ (0 : Int32) := fun q => h0 (by have := (nIm_0 (by omega)).mp q; omega)
    have x10 := q_kept (m := m) (a := 10) h0 hd (by omega)
    have x11 := q_kept (m := m) (a := 11) h0 hd (by omega)
    have x12 := q_kept (m := m) (a := 12) h0 hd (by omega)
    have x13 := q_kept (m := m) (a := 13) h0 hd (by omega)
    have x1 := q_kept (m := m) (a := 1) h0 hd (by omega)
    rw [show nI 10 = (10 : Int32) from rfl] at x10
    rw [show nI 11 = (11 : Int32) from rfl] at x11
    rw [show nI 12 = (12 : Int32) from rfl] at x12
    rw [show nI 13 = (13 : Int32) from rfl] at x13
    rw [show nI 1 = (1 : Int32) from rfl] at x1
    rw [x10, x11, x12, x13, x1, k1, k2, k3, if_neg n0, if_neg n0, if_neg n0, if_neg n1, if_neg n1]
    have eti : (if nI md = (0 : Int32) then some (nI (m (d * 410 - 410 + 13))) else some (nI ti')) = some (nI ti) := by
      by_cases q : md = 0
      · rw [if_pos ((nIe_0 (by omega)).mpr q), k4 q]
      · rw [if_neg (fun z => q ((nIe_0 (by omega)).mp z)), k5 q]
    have epc : (if bi ha' = (0 : Int32) then some (nI pc') else some (nI (m (d * 410 - 410 + 1)))) = some (nI pc) := by
      cases ha' with
      | false => rw [if_pos (show bi false = (0 : Int32) from rfl), k7 rfl]
      | true => rw [if_neg (show ¬ bi true = (0 : Int32) by decide), k6 rfl]
    simp only [Option.bind_some]
    rw [eti, epc]
    simp only [Option.bind_some, ← apply_ite some]
theorem q_wordAt {d S Sg md' pc' ba' bo' ti' md pc ba bo ti : Nat} {ro' ha' ro ha : Bool} {rg' m dk' rg mm dk : Nat → Nat} {cs' cs : mc_K} {p : Int32} (h : grel d S Sg (md', pc', ba', bo', ti', ro', ha', rg', m, dk', cs') (md, pc, ba, bo, ti, ro, ha, rg, mm, dk, cs)) : f_GU_wordAt (nI Sg) (nI (d * 410)) (nf m) p = some (if p < 0 then -1 else if p < nI Sg then nI (mm p.toNatClampNeg) else -1) := by
  have hd := g_d h
  have hSg : Sg ≤ 1024 := h.2.2.2.1
  obtain ⟨-, -, -, -, -, h6, -⟩ := g_see h
  unfold f_GU_wordAt
  rcases i32_c p with h | ⟨n, hn, rfl⟩
  · rw [if_pos h, if_pos h]
  · have h0 : ¬ nI n < (0 : Int32) := fun q => by have := (nIl_0 hn).mp q; omega
    rw [if_neg h0, if_neg h0, ic (nI_ltI hn (by omega)), ic (nI_ltI hn (by omega)), nI_add]
    by_cases q : n < Sg
    · rw [if_pos q, if_pos q, if_pos ((ck_nI (by omega)).mpr (by omega)), nf_at, nI_clamp (by omega), nI_clamp hn, h6 n q]
    · rw [if_neg q, if_neg q]
theorem q_blockWord {dk : Nat → Nat} {p q : Int32} : f_MA_blockWord (nf dk) p q = some (if p < 0 then -1 else if (8 : Int32) ≤ p then -1 else if q < 0 then -1 else if q < 16 then nI (dk (p.toNatClampNeg * 16 + q.toNatClampNeg)) else -1) := by
  unfold f_MA_blockWord
  by_cases h1 : p < 0
  · rw [if_pos h1, if_pos h1]
  by_cases h2 : (8 : Int32) ≤ p
  · rw [if_neg h1, if_pos h2, if_neg h1, if_pos h2]
  by_cases h3 : q < 0
  · rw [if_neg h1, if_neg h2, if_pos h3, if_neg h1, if_neg h2, if_pos h3]
  by_cases h4 : q < 16
  · rw [if_neg h1, if_neg h2, if_neg h3, if_pos h4, if_neg h1, if_neg h2, if_neg h3, if_pos h4]
    obtain ⟨a, ha, rfl⟩ := (i32_c p).resolve_left h1
    obtain ⟨b, hb, rfl⟩ := (i32_c q).resolve_left h3
    have h2' : a < 8 := by
      by_cases z : a < 8
      · exact z
      · exact absurd ((nIn_8 ha).mpr (by omega)) h2
    have h4' : b < 16 := (nIl_16 hb).mp h4
    rw [show (16 : Int32) = nI 16 from rfl, nI_mulL, nI_add, if_pos ((ck_nI (by omega)).mpr (by omega)), nf_at, nI_clamp (by omega), nI_clamp (by omega), nI_clamp (by omega)]
  · rw [if_neg h1, if_neg h2, if_neg h3, if_neg h4, if_neg h1, if_neg h2, if_neg h3, if_neg h4]
theorem q_sentByte {kold kwai ksnt p : Int32} {ktyp ksen : Nat → Int32} {cs : mc_K} (h : KR kold kwai ksnt ktyp ksen cs) : f_CO_sentByte ksnt ksen p = some (if p < 0 then -1 else if nI cs.2.2 ≤ p then -1 else if p < 500 then nI (cs.2.1 p.toNatClampNeg) else -1) := by
  obtain ⟨o, ho, -, hw, -, rfl, rfl, hb, ht⟩ := h
  unfold f_CO_sentByte
  by_cases h1 : p < 0
  · rw [if_pos h1, if_pos h1]
  obtain ⟨a, ha, rfl⟩ := (i32_c p).resolve_left h1
  rw [if_neg h1, if_neg h1]
  by_cases h2 : nI cs.2.2 ≤ nI a
  · rw [if_pos h2, if_pos h2]
  rw [if_neg h2, if_neg h2]
  by_cases h3 : nI a < 500
  · rw [if_pos h3, if_pos h3, if_pos ((ck_nI (by omega)).mpr ((nIl_500 ha).mp h3)), nf_at]
  · rw [if_neg h3, if_neg h3]
end GUC
