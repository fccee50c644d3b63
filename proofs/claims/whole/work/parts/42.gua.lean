/-! THE CLASS'S GUEST: awaitTurn, advance -/
section GUA
variable {S Sg d : Nat} {Q : mc_S → Prop} {ktyp : Nat → Int32}
theorem q_turn1 {md pc ba bo ti : Nat} {ro ha : Bool} {rg mm dk : Nat → Nat} {cs : mc_K} (hd : d ≤ 2) (hm : md < 2) (h10 : mm 10 < 65536) (h : tr_ d (md, pc, ba, bo, ti, ro, ha, rg, mm, dk, cs)) : f_GU_isTurn (nI d) (nI md) (bi ha) (nf mm) = some 1 := by
  unfold f_GU_isTurn
  rw [ic (nIe_0 (by omega)), ic (nIe_1 (by omega)), show (10 : Int32).toNatClampNeg = 10 by decide, nf_at, ic (nIe_1 (by omega)), ic (nIe_1 (by omega))]
  rcases h with h | h | h
  · rw [if_pos h]
  · have h' : ha = true := h
    subst h'
    rw [if_neg (show ¬ bi true = (0 : Int32) by decide)]
    split <;> rfl
  · obtain ⟨h1, h2⟩ := h
    have h1' : md = 1 := h1
    have h2' : d = 1 ∨ mm 10 = 1 := h2
    rw [if_pos h1']
    repeat' split
    all_goals first | rfl | omega
theorem q_turn0 {md pc ba bo ti : Nat} {ro ha : Bool} {rg mm dk : Nat → Nat} {cs : mc_K} (hd : d ≤ 2) (hm : md < 2) (h10 : mm 10 < 65536) (h : ¬ tr_ d (md, pc, ba, bo, ti, ro, ha, rg, mm, dk, cs)) : f_GU_isTurn (nI d) (nI md) (bi ha) (nf mm) = some 0 ∧ ha = false := by
  have h0 : ¬ d = 0 := fun q => h (Or.inl q)
  have h1 : ha = false := by
    cases ha with
    | false => rfl
    | true => exact absurd (Or.inr (Or.inl rfl)) h
  have h2 : ¬ (md = 1 ∧ (d = 1 ∨ mm 10 = 1)) := fun q => h (Or.inr (Or.inr q))
  refine ⟨?_, h1⟩
  subst h1
  unfold f_GU_isTurn
  rw [ic (nIe_0 (by omega)), ic (nIe_1 (by omega)), show (10 : Int32).toNatClampNeg = 10 by decide, nf_at, ic (nIe_1 (by omega)), ic (nIe_1 (by omega)), if_neg h0, if_pos (show bi false = (0 : Int32) from rfl)]
  repeat' split
  all_goals first | rfl | (exfalso; omega)
def awS (n d S : Nat) (s : mc_S) (kold kwai ksnt : Int32) (ktyp ksen : Nat → Int32) (i : Nat) : Option tG := match s with
  | (md, pc, ba, bo, ti, ro, ha, rg, mm, dk, _) => b_GU_awaitTurn_2 n (nI d) (nI S) (nI md) (nI pc) (nI ba) (nI bo) (rr S ba bo) (nI ti) (bi ro) (bi ha) (nf mm) (nf rg) (nf dk) kold kwai ksnt ktyp ksen (nI i)
theorem q_aw (hd : d ≤ 2) (hQ : ∀ s, Q s → tr_ d s) : ∀ (j n i : Nat) (s : mc_S) (kold kwai ksnt : Int32) (ksen : Nat → Int32), aw S d Q j s → wfs S s → KR kold kwai ksnt ktyp ksen (s_cs s) → (s_cs s).2.2 + j < 2 ^ 30 → i + j < 10000 → j < n → ∃ (s' : mc_S) (kold' kwai' ksnt' : Int32) (ksen' : Nat → Int32), awS n d S s kold kwai ksnt ktyp ksen i = some (cvG S s' kold' kwai' ksnt' ksen') ∧ Q s' ∧ wfs S s' ∧ KR kold' kwai' ksnt' ktyp ksen' (s_cs s') := by
  intro j
  induction j with
  | zero =>
    intro n i s kold kwai ksnt ksen ha hw hK hc hi hn
    refine ⟨s, kold, kwai, ksnt, ksen, ?_, ha, hw, hK⟩
    obtain ⟨n, rfl⟩ : ∃ m, n = m + 1 := ⟨n - 1, by omega⟩
    have ht := hQ s ha
    obtain ⟨md, pc, ba, bo, ti, ro, ha', rg, mm, dk, cs⟩ := s
    obtain ⟨⟨w1, w2, w3, w4, w5, w6, w7, w8, w9⟩, w10, w11⟩ := hw
    unfold awS
    show b_GU_awaitTurn_2 (n + 1) _ _ _ _ _ _ _ _ _ _ _ _ _ _ _ _ _ _ _ = _
    rw [b_GU_awaitTurn_2, if_neg (show ¬ (10000 : Int32) ≤ nI i from fun z => by have := (nIn_10000 (by omega)).mp z; omega), q_turn1 hd w2 (w8 10) ht]
    rfl
  | succ j ih =>
    intro n i s kold kwai ksnt ksen ha hw hK hc hi hn
    obtain ⟨n, rfl⟩ : ∃ m, n = m + 1 := ⟨n - 1, by omega⟩
    obtain ⟨ht, ha⟩ := ha
    have hw2 := wf_step hw
    have hcn := cn_step (S := S) (s := s)
    obtain ⟨md, pc, ba, bo, ti, ro, ha', rg, mm, dk, cs⟩ := s
    have hw0 := hw
    obtain ⟨⟨w1, w2, w3, w4, w5, w6, w7, w8, w9⟩, w10, w11⟩ := hw
    obtain ⟨t0, rfl⟩ := q_turn0 hd w2 (w8 10) ht
    have hc' : cs.2.2 + (j + 1) < 2 ^ 30 := hc
    have hK' : KR kold kwai ksnt ktyp ksen cs := hK
    obtain ⟨ko, kw, ks, ke, e1, e2⟩ := q_step (ro := ro) hw0.1 hK' (show cs.2.2 < 2 ^ 30 by omega)
    have es : mc_step S (md, pc, ba, bo, ti, ro, false, rg, mm, dk, cs) = mc_st S md pc ba bo ti ro rg mm dk cs := rfl
    rw [es] at ha hw2 hcn
    obtain ⟨s', ko', kw', ks', ke', i1, i2, i3, i4⟩ := ih n (i + 1) (mc_st S md pc ba bo ti ro rg mm dk cs) ko kw ks ke ha hw2 e2 (by
      have : (s_cs (md, pc, ba, bo, ti, ro, false, rg, mm, dk, cs)).2.2 = cs.2.2 := rfl
      omega) (by omega) (by omega)
    refine ⟨s', ko', kw', ks', ke', ?_, i2, i3, i4⟩
    unfold awS
    show b_GU_awaitTurn_2 (n + 1) _ _ _ _ _ _ _ _ _ _ _ _ _ _ _ _ _ _ _ = _
    rw [b_GU_awaitTurn_2, if_neg (show ¬ (10000 : Int32) ≤ nI i from fun z => by have := (nIn_10000 (by omega)).mp z; omega), t0]
    rw [Option.bind_some, if_pos rfl]
    rw [show bi false = (0 : Int32) from rfl, e1, ← i1]
    generalize mc_st S md pc ba bo ti ro rg mm dk cs = s2
    obtain ⟨md2, pc2, ba2, bo2, ti2, ro2, ha2, rg2, mm2, dk2, cs2⟩ := s2
    show b_GU_awaitTurn_2 n _ _ _ _ _ _ _ _ _ _ _ _ _ _ _ _ _ _ (nI i + 1) = _
    rw [nI_1]
    rfl
/-- so many steps of the document's machine, or until it is halted -/
def mc_rn (Sg : Nat) : Nat → mc_S → Nat × mc_S
  | 0, s => (0, s)
  | n + 1, s => if s_ha s = true then (0, s) else ((mc_rn Sg n (mc_step Sg s)).1 + 1, (mc_rn Sg n (mc_step Sg s)).2)
theorem rn_le : ∀ (n : Nat) (s : mc_S), (mc_rn Sg n s).1 ≤ n ∧ (s_cs (mc_rn Sg n s).2).2.2 ≤ (s_cs s).2.2 + (mc_rn Sg n s).1 := by
  intro n
  induction n with
  | zero => intro s; exact ⟨Nat.le_refl _, Nat.le_refl _⟩
  | succ n ih =>
    intro s
    unfold mc_rn
    split
    · exact ⟨by show 0 ≤ n + 1; omega, Nat.le_refl _⟩
    · have h1 := ih (mc_step Sg s)
      have h2 := cn_step (S := Sg) (s := s)
      refine ⟨by show _ + 1 ≤ n + 1; omega, ?_⟩
      show (s_cs (mc_rn Sg n (mc_step Sg s)).2).2.2 ≤ (s_cs s).2.2 + ((mc_rn Sg n (mc_step Sg s)).1 + 1)
      omega
def avS (n d S : Nat) (s : mc_S) (gsp kold kwai ksnt : Int32) (ktyp ksen : Nat → Int32) (w i : Nat) : Option (Int32 × Int32 × tG) := match s with
  | (md, pc, ba, bo, ti, ro, ha, rg, mm, dk, _) => b_GU_advance_2 n (nI d) gsp (nI S) (nI md) (nI pc) (nI ba) (nI bo) (rr S ba bo) (nI ti) (bi ro) (bi ha) (nf mm) (nf rg) (nf dk) kold kwai ksnt ktyp ksen (nI w) (nI i)
theorem g_d {R G : mc_S} (h : grel d S Sg R G) : d ≤ 2 := by
  obtain ⟨-, -, -, -, h5⟩ := h
  omega
theorem q_adv {gsp : Int32} : ∀ (j n i : Nat) (R G : mc_S) (kold kwai ksnt : Int32) (ksen : Nat → Int32), grel d S Sg R G → KR kold kwai ksnt ktyp ksen (s_cs R) → (s_cs G).2.2 + j < 2 ^ 29 → i + j ≤ 5000 → j < n → ∃ (R' : mc_S) (kold' kwai' ksnt' : Int32) (ksen' : Nat → Int32), avS n d S R gsp kold kwai ksnt ktyp ksen (i + j) i = some (nI (i + (mc_rn Sg j G).1), gsp + nI (i + (mc_rn Sg j G).1), cvG S R' kold' kwai' ksnt' ksen') ∧ grel d S Sg R' (mc_rn Sg j G).2 ∧ KR kold' kwai' ksnt' ktyp ksen' (s_cs R') := by
  intro j
  induction j with
  | zero =>
    intro n i R G kold kwai ksnt ksen hr hK hc hi hn
    obtain ⟨n, rfl⟩ : ∃ m, n = m + 1 := ⟨n - 1, by omega⟩
    refine ⟨R, kold, kwai, ksnt, ksen, ?_, hr, hK⟩
    obtain ⟨md, pc, ba, bo, ti, ro, ha', rg, mm, dk, cs⟩ := R
    unfold avS
    show b_GU_advance_2 (n + 1) _ _ _ _ _ _ _ _ _ _ _ _ _ _ _ _ _ _ _ _ _ = _
    rw [b_GU_advance_2, if_pos (show nI (i + 0) ≤ nI i from (nI_leI (by omega) (by omega)).mpr (by omega))]
    rfl
  | succ j ih =>
    intro n i R G kold kwai ksnt ksen hr hK hc hi hn
    obtain ⟨n, rfl⟩ : ∃ m, n = m + 1 := ⟨n - 1, by omega⟩
    obtain ⟨g1, g2, g3⟩ := g_turn hr
    have hd := g_d hr
    by_cases hh : s_ha G = true
    · have e : mc_rn Sg (j + 1) G = (0, G) := by unfold mc_rn; rw [if_pos hh]
      rw [e]
      refine ⟨R, kold, kwai, ksnt, ksen, ?_, hr, hK⟩
      rw [hh] at g2
      obtain ⟨md, pc, ba, bo, ti, ro, ha', rg, mm, dk, cs⟩ := R
      have g2' : ha' = true := g2
      subst g2'
      unfold avS
      show b_GU_advance_2 (n + 1) _ _ _ _ _ _ _ _ _ _ _ _ _ _ _ _ _ _ _ _ _ = _
      rw [b_GU_advance_2, if_neg (show ¬ nI (i + (j + 1)) ≤ nI i from fun z => by have := (nI_leI (by omega) (by omega)).mp z; omega), if_neg (show ¬ bi true = (0 : Int32) by decide)]
      rfl
    · have hf : s_ha G = false := by simpa using hh
      have e : mc_rn Sg (j + 1) G = ((mc_rn Sg j (mc_step Sg G)).1 + 1, (mc_rn Sg j (mc_step Sg G)).2) := by
        show (if s_ha G = true then _ else _) = _
        rw [if_neg hh]
      rw [e]
      have hcn := cn_step (S := Sg) (s := G)
      obtain ⟨k, hk, hq⟩ := g_step hr hf
      rw [hf] at g2
      have hwR := hr.1
      have hwR2 := wf_step hr.1
      have hcR := cn_step (S := S) (s := R)
      have hcs : (s_cs R).2.2 = (s_cs G).2.2 := by rw [g3]
      obtain ⟨md, pc, ba, bo, ti, ro, ha', rg, mm, dk, cs⟩ := R
      have g2' : ha' = false := g2
      subst g2'
      have hcs' : cs.2.2 = (s_cs G).2.2 := hcs
      have hK' : KR kold kwai ksnt ktyp ksen cs := hK
      obtain ⟨ko, kw, ks, ke, e1, e2⟩ := q_step (ro := ro) hwR.1 hK' (show cs.2.2 < 2 ^ 30 by omega)
      have es : mc_step S (md, pc, ba, bo, ti, ro, false, rg, mm, dk, cs) = mc_st S md pc ba bo ti ro rg mm dk cs := rfl
      rw [es] at hq hwR2 hcR
      have hcR' : (s_cs (mc_st S md pc ba bo ti ro rg mm dk cs)).2.2 ≤ cs.2.2 + 1 := hcR
      obtain ⟨R', ko', kw', ks', ke', i1, i2, i3, i4⟩ := q_aw (ktyp := ktyp) hd (fun s hs => (g_turn hs).1) k 65536 0 (mc_st S md pc ba bo ti ro rg mm dk cs) ko kw ks ke hq hwR2 e2 (by omega) (by omega) (by omega)
      obtain ⟨R2, ko2, kw2, ks2, ke2, j1, j2, j3⟩ := ih n (i + 1) R' (mc_step Sg G) ko' kw' ks' ke' i2 i4 (by omega) (by omega) (by omega)
      refine ⟨R2, ko2, kw2, ks2, ke2, ?_, j2, j3⟩
      have ei : i + ((mc_rn Sg j (mc_step Sg G)).1 + 1) = i + 1 + (mc_rn Sg j (mc_step Sg G)).1 := by omega
      have ej : i + (j + 1) = i + 1 + j := by omega
      show avS (n + 1) d S _ gsp kold kwai ksnt ktyp ksen (i + (j + 1)) i = some (nI (i + ((mc_rn Sg j (mc_step Sg G)).1 + 1)), gsp + nI (i + ((mc_rn Sg j (mc_step Sg G)).1 + 1)), _)
      rw [ei, ej, ← j1]
      show b_GU_advance_2 (n + 1) _ _ _ _ _ _ _ _ _ _ _ _ _ _ _ _ _ _ _ _ _ = _
      rw [b_GU_advance_2, if_neg (show ¬ nI (i + 1 + j) ≤ nI i from fun z => by have := (nI_leI (by omega) (by omega)).mp z; omega), if_pos (show bi false = (0 : Int32) from rfl)]
      rw [show bi false = (0 : Int32) from rfl, e1]
      clear e1 hq hwR2 hcR e2 hcR' es
      generalize mc_st S md pc ba bo ti ro rg mm dk cs = s2 at i1
      obtain ⟨md2, pc2, ba2, bo2, ti2, ro2, ha2, rg2, mm2, dk2, cs2⟩ := s2
      have i1' : f_GU_awaitTurn (nI d) (nI S) (nI md2) (nI pc2) (nI ba2) (nI bo2) (rr S ba2 bo2) (nI ti2) (bi ro2) (bi ha2) (nf mm2) (nf rg2) (nf dk2) ko kw ks ktyp ke = some (cvG S R' ko' kw' ks' ke') := i1
      show (f_GU_awaitTurn (nI d) (nI S) (nI md2) (nI pc2) (nI ba2) (nI bo2) (rr S ba2 bo2) (nI ti2) (bi ro2) (bi ha2) (nf mm2) (nf rg2) (nf dk2) ko kw ks ktyp ke).bind _ = _
      rw [i1']
      obtain ⟨md3, pc3, ba3, bo3, ti3, ro3, ha3, rg3, mm3, dk3, cs3⟩ := R'
      show b_GU_advance_2 n _ _ _ _ _ _ _ _ _ _ _ _ _ _ _ _ _ _ _ _ (nI i + 1) = _
      rw [nI_1]
      rfl
/-- ADVANCE: so many steps of the guest, or until it is halted -/
theorem q_advance {R G : mc_S} {gsp kold kwai ksnt : Int32} {ksen : Nat → Int32} {w : Nat} (h : grel d S Sg R G) (hK : KR kold kwai ksnt ktyp ksen (s_cs R)) (hc : (s_cs G).2.2 + w < 2 ^ 29) (hw : w ≤ 5000) : ∃ (R' : mc_S) (kold' kwai' ksnt' : Int32) (ksen' : Nat → Int32), avS 65536 d S R gsp kold kwai ksnt ktyp ksen w 0 = some (nI (mc_rn Sg w G).1, gsp + nI (mc_rn Sg w G).1, cvG S R' kold' kwai' ksnt' ksen') ∧ grel d S Sg R' (mc_rn Sg w G).2 ∧ KR kold' kwai' ksnt' ktyp ksen' (s_cs R') := by
  have q := q_adv (gsp := gsp) w 65536 0 R G kold kwai ksnt ksen h hK hc (by omega) (by omega)
  rw [Nat.zero_add, Nat.zero_add] at q
  exact q
end GUA
