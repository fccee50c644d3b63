section QME
abbrev tG : Type := Int32 × Int32 × Int32 × Int32 × Int32 × Int32 × Int32 × Int32 × (Nat → Int32) × (Nat → Int32) × (Nat → Int32) × Int32 × Int32 × Int32 × (Nat → Int32)
def cvG (S : Nat) (s : mc_S) (kold kwai ksnt : Int32) (ksen : Nat → Int32) : tG := match s with
  | (md, pc, ba, bo, ti, ro, ha, rg, mm, dk, _) => (nI md, nI pc, nI ba, nI bo, rr S ba bo, nI ti, bi ro, bi ha, nf mm, nf rg, nf dk, kold, kwai, ksnt, ksen)
/-- the machine's numbers are words -/
def wfM (S md pc ba bo ti : Nat) (rg mm dk : Nat → Nat) : Prop := S ≤ 1844 ∧ md < 2 ∧ pc < 65536 ∧ ba < 65536 ∧ bo < 65536 ∧ ti < 65536 ∧ (∀ i, rg i < 65536) ∧ (∀ i, mm i < 65536) ∧ ∀ i, dk i < 65536
theorem q_trapG {S md pc ba bo ti c i k : Nat} {ro : Bool} {rg mm dk : Nat → Nat} {cs : mc_K} {kold kwai ksnt : Int32} {ksen : Nat → Int32} (h : wfM S md pc ba bo ti rg mm dk) (hc : c < 65536) (hi : i < 65536) (hk : k < 65536) : ((f_MA_trap (nI S) (nI md) (nI ba) (nI bo) (nf mm) (nI c) (nI i) (nI k)).bind fun x => match x with | (a, b, c, d, e, f) => some (a, b, c, d, e, nI ti, bi ro, (0 : Int32), f, nf rg, nf dk, kold, kwai, ksnt, ksen)) = some (cvG S (mc_trap c i k md ba bo ti ro rg mm dk cs) kold kwai ksnt ksen) := by
  obtain ⟨h1, h2, h3, h4, h5, h6, h7, h8, h9⟩ := h
  rw [q_trap (by omega) h8 hc hi hk (by omega) h4 h5]
  rfl
def gvK (vsz : Int32) (vmd : Int32) (vpc : Int32) (vba : Int32) (vbo : Int32) (vre : Int32) (vti : Int32) (vro : Int32) (vha : Int32) (vmem : Nat → Int32) (vreg : Nat → Int32) (vblk : Nat → Int32) (kold : Int32) (kwai : Int32) (ksnt : Int32) (ktyp : Nat → Int32) (ksen : Nat → Int32) (x1 : Int32) (x2 : Int32) (x5 : Int32) : Option tG := (if (x1) = 0 then (some (vmd, vpc, vba, vbo, vre, vti, vro, 1, vmem, vreg, vblk, kold, kwai, ksnt, ksen)) else (if (x1) = 17 then ((f_MA_takeStatus vsz vmem (vba + x5)).bind fun (vmd_7, vpc_7, vba_7, vbo_7, vre_7) => (some (vmd_7, vpc_7, vba_7, vbo_7, vre_7, vti, vro, vha, vmem, vreg, vblk, kold, kwai, ksnt, ksen))) else (if (x1) = 18 then ((f_MA_keepStatus vmd vba vbo vmem (vba + x5) (vpc + 2)).bind fun vmem_9 => (some (vmd, (vpc + 2), vba, vbo, vre, vti, vro, vha, vmem_9, vreg, vblk, kold, kwai, ksnt, ksen))) else (if (x1) = 19 then (if ck x2 8 then (some (vmd, (vpc + 2), vba, vbo, vre, (vreg x2.toNatClampNeg), 0, vha, vmem, vreg, vblk, kold, kwai, ksnt, ksen)) else none) else (if (x1) = 20 then (if ck x2 8 then (some (vmd, (vpc + 2), vba, vbo, vre, vti, vro, vha, vmem, (upd vreg x2.toNatClampNeg vti), vblk, kold, kwai, ksnt, ksen)) else none) else (if (x1) = 21 then ((f_CO_nextTyped kold kwai ktyp).bind fun (r_15, kold_15, kwai_15) => (if ck x2 8 then (some (vmd, (vpc + 2), vba, vbo, vre, vti, vro, vha, vmem, (upd vreg x2.toNatClampNeg r_15), vblk, kold_15, kwai_15, ksnt, ksen)) else none)) else (if (x1) = 22 then (if ck x2 8 then ((f_CO_send ksnt ksen ((vreg x2.toNatClampNeg) &&& 255)).bind fun (ksnt_19, ksen_19) => (some (vmd, (vpc + 2), vba, vbo, vre, vti, vro, vha, vmem, vreg, vblk, kold, kwai, ksnt_19, ksen_19))) else none) else (if (x1) = 23 then (if cq (((vreg x2.toNatClampNeg) &&& 7) * 16) 128 (vba + x5) 1844 16 then (some (vmd, (vpc + 2), vba, vbo, vre, vti, vro, vha, (va_cpy vblk vmem (((vreg x2.toNatClampNeg) &&& 7) * 16).toNatClampNeg (vba + x5).toNatClampNeg (16 : Int32).toNatClampNeg), vreg, vblk, kold, kwai, ksnt, ksen)) else none) else (if (x1) = 24 then (if cq (vba + x5) 1844 (((vreg x2.toNatClampNeg) &&& 7) * 16) 128 16 then (some (vmd, (vpc + 2), vba, vbo, vre, vti, vro, vha, vmem, vreg, (va_cpy vmem vblk (vba + x5).toNatClampNeg (((vreg x2.toNatClampNeg) &&& 7) * 16).toNatClampNeg (16 : Int32).toNatClampNeg), kold, kwai, ksnt, ksen)) else none) else (some (vmd, (vpc + 2), vba, vbo, vre, vti, vro, vha, vmem, vreg, vblk, kold, kwai, ksnt, ksen)))))))))))
theorem cpy_nf (f g : Nat → Nat) (s d n : Nat) : va_cpy (nf f) (nf g) s d n = nf (va_cpy f g s d n) := by
  funext k
  unfold va_cpy nf
  by_cases h : d ≤ k ∧ k < d + n
  · simp [h]
  · simp [h]
theorem q_pv0 {S pc ba bo ti a ad : Nat} {ro : Bool} {rg mm dk : Nat → Nat} {cs : mc_K} {kold kwai ksnt : Int32} {ktyp ksen : Nat → Int32} (h : wfM S 0 pc ba bo ti rg mm dk) (ha : a < 8) (had : ad < 65536) (hK : KR kold kwai ksnt ktyp ksen cs) (hc : cs.2.2 < 2 ^ 30) : ∃ (kold' kwai' ksnt' : Int32) (ksen' : Nat → Int32), gvK (nI S) (nI 0) (nI pc) (nI ba) (nI bo) (rr S ba bo) (nI ti) (bi ro) 0 (nf mm) (nf rg) (nf dk) kold kwai ksnt ktyp ksen (nI 0) (nI a) (nI ad) = some (cvG S (mc_pv 0 a ad 0 pc ba bo ti ro rg mm dk cs) kold' kwai' ksnt' ksen') ∧ KR kold' kwai' ksnt' ktyp ksen' (mc_pv 0 a ad 0 pc ba bo ti ro rg mm dk cs).2.2.2.2.2.2.2.2.2.2 := by
  obtain ⟨h1, h2, h3, h4, h5, h6, h7, h8, h9⟩ := h
  have hca : ck (nI a) 8 := (ck_nI (by omega)).mpr ha
  have ea : (nI a).toNatClampNeg = a := nI_clamp (by omega)
  have hra := h7 a
  unfold gvK
  rw [if_pos (show nI 0 = (0 : Int32) by decide)]
  exact ⟨kold, kwai, ksnt, ksen, rfl, hK⟩
theorem q_pv17 {S pc ba bo ti a ad : Nat} {ro : Bool} {rg mm dk : Nat → Nat} {cs : mc_K} {kold kwai ksnt : Int32} {ktyp ksen : Nat → Int32} (h : wfM S 0 pc ba bo ti rg mm dk) (ha : a < 8) (had : ad < 65536) (hK : KR kold kwai ksnt ktyp ksen cs) (hc : cs.2.2 < 2 ^ 30) (hg : ba + ad + 3 < S) : ∃ (kold' kwai' ksnt' : Int32) (ksen' : Nat → Int32), gvK (nI S) (nI 0) (nI pc) (nI ba) (nI bo) (rr S ba bo) (nI ti) (bi ro) 0 (nf mm) (nf rg) (nf dk) kold kwai ksnt ktyp ksen (nI 17) (nI a) (nI ad) = some (cvG S (mc_pv 17 a ad 0 pc ba bo ti ro rg mm dk cs) kold' kwai' ksnt' ksen') ∧ KR kold' kwai' ksnt' ktyp ksen' (mc_pv 17 a ad 0 pc ba bo ti ro rg mm dk cs).2.2.2.2.2.2.2.2.2.2 := by
  obtain ⟨h1, h2, h3, h4, h5, h6, h7, h8, h9⟩ := h
  have hca : ck (nI a) 8 := (ck_nI (by omega)).mpr ha
  have ea : (nI a).toNatClampNeg = a := nI_clamp (by omega)
  have hra := h7 a
  unfold gvK
  rw [if_neg (show ¬ nI 17 = (0 : Int32) by decide), if_pos (show nI 17 = (17 : Int32) by decide)]
  refine ⟨kold, kwai, ksnt, ksen, ?_, hK⟩
  rw [nI_add, q_take (by omega) h8 (by omega)]
  rfl
theorem q_pv18 {S pc ba bo ti a ad : Nat} {ro : Bool} {rg mm dk : Nat → Nat} {cs : mc_K} {kold kwai ksnt : Int32} {ktyp ksen : Nat → Int32} (h : wfM S 0 pc ba bo ti rg mm dk) (ha : a < 8) (had : ad < 65536) (hK : KR kold kwai ksnt ktyp ksen cs) (hc : cs.2.2 < 2 ^ 30) (hg : ba + ad + 3 < S) : ∃ (kold' kwai' ksnt' : Int32) (ksen' : Nat → Int32), gvK (nI S) (nI 0) (nI pc) (nI ba) (nI bo) (rr S ba bo) (nI ti) (bi ro) 0 (nf mm) (nf rg) (nf dk) kold kwai ksnt ktyp ksen (nI 18) (nI a) (nI ad) = some (cvG S (mc_pv 18 a ad 0 pc ba bo ti ro rg mm dk cs) kold' kwai' ksnt' ksen') ∧ KR kold' kwai' ksnt' ktyp ksen' (mc_pv 18 a ad 0 pc ba bo ti ro rg mm dk cs).2.2.2.2.2.2.2.2.2.2 := by
  obtain ⟨h1, h2, h3, h4, h5, h6, h7, h8, h9⟩ := h
  have hca : ck (nI a) 8 := (ck_nI (by omega)).mpr ha
  have ea : (nI a).toNatClampNeg = a := nI_clamp (by omega)
  have hra := h7 a
  unfold gvK
  rw [if_neg (show ¬ nI 18 = (0 : Int32) by decide), if_neg (show ¬ nI 18 = (17 : Int32) by decide), if_pos (show nI 18 = (18 : Int32) by decide)]
  refine ⟨kold, kwai, ksnt, ksen, ?_, hK⟩
  rw [nI_add, nI_p2, q_keep (by omega)]
  rfl
theorem q_pv19 {S pc ba bo ti a ad : Nat} {ro : Bool} {rg mm dk : Nat → Nat} {cs : mc_K} {kold kwai ksnt : Int32} {ktyp ksen : Nat → Int32} (h : wfM S 0 pc ba bo ti rg mm dk) (ha : a < 8) (had : ad < 65536) (hK : KR kold kwai ksnt ktyp ksen cs) (hc : cs.2.2 < 2 ^ 30) : ∃ (kold' kwai' ksnt' : Int32) (ksen' : Nat → Int32), gvK (nI S) (nI 0) (nI pc) (nI ba) (nI bo) (rr S ba bo) (nI ti) (bi ro) 0 (nf mm) (nf rg) (nf dk) kold kwai ksnt ktyp ksen (nI 19) (nI a) (nI ad) = some (cvG S (mc_pv 19 a ad 0 pc ba bo ti ro rg mm dk cs) kold' kwai' ksnt' ksen') ∧ KR kold' kwai' ksnt' ktyp ksen' (mc_pv 19 a ad 0 pc ba bo ti ro rg mm dk cs).2.2.2.2.2.2.2.2.2.2 := by
  obtain ⟨h1, h2, h3, h4, h5, h6, h7, h8, h9⟩ := h
  have hca : ck (nI a) 8 := (ck_nI (by omega)).mpr ha
  have ea : (nI a).toNatClampNeg = a := nI_clamp (by omega)
  have hra := h7 a
  unfold gvK
  rw [if_neg (show ¬ nI 19 = (0 : Int32) by decide), if_neg (show ¬ nI 19 = (17 : Int32) by decide), if_neg (show ¬ nI 19 = (18 : Int32) by decide), if_pos (show nI 19 = (19 : Int32) by decide)]
  refine ⟨kold, kwai, ksnt, ksen, ?_, hK⟩
  rw [if_pos hca, ea, nf_at, nI_p2]
  rfl
theorem q_pv20 {S pc ba bo ti a ad : Nat} {ro : Bool} {rg mm dk : Nat → Nat} {cs : mc_K} {kold kwai ksnt : Int32} {ktyp ksen : Nat → Int32} (h : wfM S 0 pc ba bo ti rg mm dk) (ha : a < 8) (had : ad < 65536) (hK : KR kold kwai ksnt ktyp ksen cs) (hc : cs.2.2 < 2 ^ 30) : ∃ (kold' kwai' ksnt' : Int32) (ksen' : Nat → Int32), gvK (nI S) (nI 0) (nI pc) (nI ba) (nI bo) (rr S ba bo) (nI ti) (bi ro) 0 (nf mm) (nf rg) (nf dk) kold kwai ksnt ktyp ksen (nI 20) (nI a) (nI ad) = some (cvG S (mc_pv 20 a ad 0 pc ba bo ti ro rg mm dk cs) kold' kwai' ksnt' ksen') ∧ KR kold' kwai' ksnt' ktyp ksen' (mc_pv 20 a ad 0 pc ba bo ti ro rg mm dk cs).2.2.2.2.2.2.2.2.2.2 := by
  obtain ⟨h1, h2, h3, h4, h5, h6, h7, h8, h9⟩ := h
  have hca : ck (nI a) 8 := (ck_nI (by omega)).mpr ha
  have ea : (nI a).toNatClampNeg = a := nI_clamp (by omega)
  have hra := h7 a
  unfold gvK
  rw [if_neg (show ¬ nI 20 = (0 : Int32) by decide), if_neg (show ¬ nI 20 = (17 : Int32) by decide), if_neg (show ¬ nI 20 = (18 : Int32) by decide), if_neg (show ¬ nI 20 = (19 : Int32) by decide), if_pos (show nI 20 = (20 : Int32) by decide)]
  refine ⟨kold, kwai, ksnt, ksen, ?_, hK⟩
  rw [if_pos hca, ea, upd_nf, nI_p2]
  rfl
theorem q_pv21 {S pc ba bo ti a ad : Nat} {ro : Bool} {rg mm dk : Nat → Nat} {cs : mc_K} {kold kwai ksnt : Int32} {ktyp ksen : Nat → Int32} (h : wfM S 0 pc ba bo ti rg mm dk) (ha : a < 8) (had : ad < 65536) (hK : KR kold kwai ksnt ktyp ksen cs) (hc : cs.2.2 < 2 ^ 30) : ∃ (kold' kwai' ksnt' : Int32) (ksen' : Nat → Int32), gvK (nI S) (nI 0) (nI pc) (nI ba) (nI bo) (rr S ba bo) (nI ti) (bi ro) 0 (nf mm) (nf rg) (nf dk) kold kwai ksnt ktyp ksen (nI 21) (nI a) (nI ad) = some (cvG S (mc_pv 21 a ad 0 pc ba bo ti ro rg mm dk cs) kold' kwai' ksnt' ksen') ∧ KR kold' kwai' ksnt' ktyp ksen' (mc_pv 21 a ad 0 pc ba bo ti ro rg mm dk cs).2.2.2.2.2.2.2.2.2.2 := by
  obtain ⟨h1, h2, h3, h4, h5, h6, h7, h8, h9⟩ := h
  have hca : ck (nI a) 8 := (ck_nI (by omega)).mpr ha
  have ea : (nI a).toNatClampNeg = a := nI_clamp (by omega)
  have hra := h7 a
  unfold gvK
  rw [if_neg (show ¬ nI 21 = (0 : Int32) by decide), if_neg (show ¬ nI 21 = (17 : Int32) by decide), if_neg (show ¬ nI 21 = (18 : Int32) by decide), if_neg (show ¬ nI 21 = (19 : Int32) by decide), if_neg (show ¬ nI 21 = (20 : Int32) by decide), if_pos (show nI 21 = (21 : Int32) by decide)]
  obtain ⟨o', w', e1, e2, e3⟩ := q_next hK
  refine ⟨o', w', ksnt, ksen, ?_, e2⟩
  rw [e1, Option.bind_some]
  show (if ck (nI a) 8 then _ else none) = _
  rw [if_pos hca, ea, upd_nf, nI_p2]
  rfl
theorem q_pv22 {S pc ba bo ti a ad : Nat} {ro : Bool} {rg mm dk : Nat → Nat} {cs : mc_K} {kold kwai ksnt : Int32} {ktyp ksen : Nat → Int32} (h : wfM S 0 pc ba bo ti rg mm dk) (ha : a < 8) (had : ad < 65536) (hK : KR kold kwai ksnt ktyp ksen cs) (hc : cs.2.2 < 2 ^ 30) : ∃ (kold' kwai' ksnt' : Int32) (ksen' : Nat → Int32), gvK (nI S) (nI 0) (nI pc) (nI ba) (nI bo) (rr S ba bo) (nI ti) (bi ro) 0 (nf mm) (nf rg) (nf dk) kold kwai ksnt ktyp ksen (nI 22) (nI a) (nI ad) = some (cvG S (mc_pv 22 a ad 0 pc ba bo ti ro rg mm dk cs) kold' kwai' ksnt' ksen') ∧ KR kold' kwai' ksnt' ktyp ksen' (mc_pv 22 a ad 0 pc ba bo ti ro rg mm dk cs).2.2.2.2.2.2.2.2.2.2 := by
  obtain ⟨h1, h2, h3, h4, h5, h6, h7, h8, h9⟩ := h
  have hca : ck (nI a) 8 := (ck_nI (by omega)).mpr ha
  have ea : (nI a).toNatClampNeg = a := nI_clamp (by omega)
  have hra := h7 a
  unfold gvK
  rw [if_neg (show ¬ nI 22 = (0 : Int32) by decide), if_neg (show ¬ nI 22 = (17 : Int32) by decide), if_neg (show ¬ nI 22 = (18 : Int32) by decide), if_neg (show ¬ nI 22 = (19 : Int32) by decide), if_neg (show ¬ nI 22 = (20 : Int32) by decide), if_neg (show ¬ nI 22 = (21 : Int32) by decide), if_pos (show nI 22 = (22 : Int32) by decide)]
  obtain ⟨s', f', e1, e2⟩ := q_send (b := rg a % 256) hc hK
  refine ⟨kold, kwai, s', f', ?_, e2⟩
  have em : nI (rg a) &&& 255 = nI (rg a % 256) := pk_andN (by omega) 8 (by decide)
  rw [if_pos hca, ea, nf_at, em, e1, nI_p2]
  rfl
theorem q_pv23 {S pc ba bo ti a ad : Nat} {ro : Bool} {rg mm dk : Nat → Nat} {cs : mc_K} {kold kwai ksnt : Int32} {ktyp ksen : Nat → Int32} (h : wfM S 0 pc ba bo ti rg mm dk) (ha : a < 8) (had : ad < 65536) (hK : KR kold kwai ksnt ktyp ksen cs) (hc : cs.2.2 < 2 ^ 30) (hg : ba + ad + 15 < S) : ∃ (kold' kwai' ksnt' : Int32) (ksen' : Nat → Int32), gvK (nI S) (nI 0) (nI pc) (nI ba) (nI bo) (rr S ba bo) (nI ti) (bi ro) 0 (nf mm) (nf rg) (nf dk) kold kwai ksnt ktyp ksen (nI 23) (nI a) (nI ad) = some (cvG S (mc_pv 23 a ad 0 pc ba bo ti ro rg mm dk cs) kold' kwai' ksnt' ksen') ∧ KR kold' kwai' ksnt' ktyp ksen' (mc_pv 23 a ad 0 pc ba bo ti ro rg mm dk cs).2.2.2.2.2.2.2.2.2.2 := by
  obtain ⟨h1, h2, h3, h4, h5, h6, h7, h8, h9⟩ := h
  have hca : ck (nI a) 8 := (ck_nI (by omega)).mpr ha
  have ea : (nI a).toNatClampNeg = a := nI_clamp (by omega)
  have hra := h7 a
  unfold gvK
  rw [if_neg (show ¬ nI 23 = (0 : Int32) by decide), if_neg (show ¬ nI 23 = (17 : Int32) by decide), if_neg (show ¬ nI 23 = (18 : Int32) by decide), if_neg (show ¬ nI 23 = (19 : Int32) by decide), if_neg (show ¬ nI 23 = (20 : Int32) by decide), if_neg (show ¬ nI 23 = (21 : Int32) by decide), if_neg (show ¬ nI 23 = (22 : Int32) by decide), if_pos (show nI 23 = (23 : Int32) by decide)]
  have em : nI (rg a) &&& 7 = nI (rg a % 8) := pk_andN (by omega) 3 (by decide)
  have e2 : (nI (rg a) &&& 7) * 16 = nI (rg a % 8 * 16) := by
    rw [em]
    exact pk_mul (rg a % 8) 16
  have hm8 : rg a % 8 < 8 := Nat.mod_lt _ (by decide)
  have e16 : (16 : Int32).toNatClampNeg = 16 := by decide
  have c1 : (nI (rg a % 8 * 16)).toNatClampNeg = rg a % 8 * 16 := nI_clamp (by omega)
  have c2 : (nI (ba + ad)).toNatClampNeg = ba + ad := nI_clamp (by omega)
  have hq : cq (nI (rg a % 8 * 16)) 128 (nI (ba + ad)) 1844 16 := ⟨nI_pos (by omega), nI_pos (by omega), by decide, by rw [c1, e16]; omega, by rw [c2, e16]; omega⟩
  refine ⟨kold, kwai, ksnt, ksen, ?_, hK⟩
  rw [ea, nf_at, e2, nI_add, if_pos hq, c1, c2, e16, cpy_nf, nI_p2]
  rfl
theorem q_pv24 {S pc ba bo ti a ad : Nat} {ro : Bool} {rg mm dk : Nat → Nat} {cs : mc_K} {kold kwai ksnt : Int32} {ktyp ksen : Nat → Int32} (h : wfM S 0 pc ba bo ti rg mm dk) (ha : a < 8) (had : ad < 65536) (hK : KR kold kwai ksnt ktyp ksen cs) (hc : cs.2.2 < 2 ^ 30) (hg : ba + ad + 15 < S) : ∃ (kold' kwai' ksnt' : Int32) (ksen' : Nat → Int32), gvK (nI S) (nI 0) (nI pc) (nI ba) (nI bo) (rr S ba bo) (nI ti) (bi ro) 0 (nf mm) (nf rg) (nf dk) kold kwai ksnt ktyp ksen (nI 24) (nI a) (nI ad) = some (cvG S (mc_pv 24 a ad 0 pc ba bo ti ro rg mm dk cs) kold' kwai' ksnt' ksen') ∧ KR kold' kwai' ksnt' ktyp ksen' (mc_pv 24 a ad 0 pc ba bo ti ro rg mm dk cs).2.2.2.2.2.2.2.2.2.2 := by
  obtain ⟨h1, h2, h3, h4, h5, h6, h7, h8, h9⟩ := h
  have hca : ck (nI a) 8 := (ck_nI (by omega)).mpr ha
  have ea : (nI a).toNatClampNeg = a := nI_clamp (by omega)
  have hra := h7 a
  unfold gvK
  rw [if_neg (show ¬ nI 24 = (0 : Int32) by decide), if_neg (show ¬ nI 24 = (17 : Int32) by decide), if_neg (show ¬ nI 24 = (18 : Int32) by decide), if_neg (show ¬ nI 24 = (19 : Int32) by decide), if_neg (show ¬ nI 24 = (20 : Int32) by decide), if_neg (show ¬ nI 24 = (21 : Int32) by decide), if_neg (show ¬ nI 24 = (22 : Int32) by decide), if_neg (show ¬ nI 24 = (23 : Int32) by decide), if_pos (show nI 24 = (24 : Int32) by decide)]
  have em : nI (rg a) &&& 7 = nI (rg a % 8) := pk_andN (by omega) 3 (by decide)
  have e2 : (nI (rg a) &&& 7) * 16 = nI (rg a % 8 * 16) := by
    rw [em]
    exact pk_mul (rg a % 8) 16
  have hm8 : rg a % 8 < 8 := Nat.mod_lt _ (by decide)
  have e16 : (16 : Int32).toNatClampNeg = 16 := by decide
  have c1 : (nI (rg a % 8 * 16)).toNatClampNeg = rg a % 8 * 16 := nI_clamp (by omega)
  have c2 : (nI (ba + ad)).toNatClampNeg = ba + ad := nI_clamp (by omega)
  have hq : cq (nI (ba + ad)) 1844 (nI (rg a % 8 * 16)) 128 16 := ⟨nI_pos (by omega), nI_pos (by omega), by decide, by rw [c2, e16]; omega, by rw [c1, e16]; omega⟩
  refine ⟨kold, kwai, ksnt, ksen, ?_, hK⟩
  rw [ea, nf_at, e2, nI_add, if_pos hq, c1, c2, e16, cpy_nf, nI_p2]
  rfl
theorem q_gov {S pc ba bo ti op a b n : Nat} {ro : Bool} {rg mm dk : Nat → Nat} {cs : mc_K} {kold kwai ksnt : Int32} {ktyp ksen : Nat → Int32} (h : wfM S 0 pc ba bo ti rg mm dk) (hop : (op = 0 ∨ 17 ≤ op) ∧ op ≤ 24) (ha : a < 8) (hb : b < 8) (hn : n < 65536) (hpc : pc + 2 < 65536) (hK : KR kold kwai ksnt ktyp ksen cs) (hc : cs.2.2 < 2 ^ 30) : ∃ (s' : mc_S) (kold' kwai' ksnt' : Int32) (ksen' : Nat → Int32), f_MA_govern (nI S) (nI 0) (nI pc) (nI ba) (nI bo) (rr S ba bo) (nI ti) (bi ro) 0 (nf mm) (nf rg) (nf dk) kold kwai ksnt ktyp ksen (nI op) (nI a) (nI b) (nI n) = some (cvG S s' kold' kwai' ksnt' ksen') ∧ KR kold' kwai' ksnt' ktyp ksen' s'.2.2.2.2.2.2.2.2.2.2 ∧ s' = (if 0 < mc_ct op ∧ ¬ mc_gd S ba bo (mc_ad op b n rg) then mc_trap 2 (mc_ad op b n rg) pc 0 ba bo ti ro rg mm dk cs else if 0 < mc_ct op ∧ ¬ mc_gd S ba bo (mc_ad op b n rg + mc_ct op - 1) then mc_trap 2 (mc_rc S ba bo) pc 0 ba bo ti ro rg mm dk cs else mc_pv op a (mc_ad op b n rg) 0 pc ba bo ti ro rg mm dk cs) := by
  have hw := h
  obtain ⟨h1, h2, h3, h4, h5, h6, h7, h8, h9⟩ := h
  have hrb := h7 b
  have hra := h7 a
  have had : mc_ad op b n rg < 65536 := by
    unfold mc_ad
    split
    · exact Nat.mod_lt _ (by decide)
    · exact hn
  have hct : mc_ct op ≤ 16 := by
    unfold mc_ct
    repeat' split
    all_goals omega
  have hca : ck (nI a) 8 := (ck_nI (by omega)).mpr ha
  have hcb : ck (nI b) 8 := (ck_nI (by omega)).mpr hb
  have ea : (nI a).toNatClampNeg = a := nI_clamp (by omega)
  have eb : (nI b).toNatClampNeg = b := nI_clamp (by omega)
  -- the address
  have e0 : f_MA_govern (nI S) (nI 0) (nI pc) (nI ba) (nI bo) (rr S ba bo) (nI ti) (bi ro) 0 (nf mm) (nf rg) (nf dk) kold kwai ksnt ktyp ksen (nI op) (nI a) (nI b) (nI n) = b_MA_govern_25 (nI S) (nI 0) (nI pc) (nI ba) (nI bo) (rr S ba bo) (nI ti) (bi ro) 0 (nf mm) (nf rg) (nf dk) kold kwai ksnt ktyp ksen (nI op) (nI a) (nI (mc_ad op b n rg)) := by
    unfold f_MA_govern
    rw [ic (nIn_23 (by omega))]
    by_cases h23 : 23 ≤ op
    · rw [if_pos h23, if_pos hcb, eb, nf_at, nI_add, q_m16 _ (by omega)]
      rw [show mc_ad op b n rg = (rg b + n) % 65536 from if_pos (by omega)]
    · rw [if_neg h23, show mc_ad op b n rg = n from if_neg (by omega)]
  rw [e0]
  generalize hA : mc_ad op b n rg = ad at had ⊢
  unfold b_MA_govern_25
  rw [q_ww hop.2, Option.bind_some, q_fb (by omega) h4 h5 hct had, Option.bind_some]
  by_cases c1 : 0 < mc_ct op ∧ ¬ mc_gd S ba bo ad
  · refine ⟨_, kold, kwai, ksnt, ksen, ?_, ?_, rfl⟩
    · rw [if_pos c1, if_neg (show ¬ nI ad = (-1 : Int32) from fun q => by have := congrArg Int32.toInt q; rw [nI_toInt (by omega)] at this; simp at this), if_pos c1]
      exact q_trapG hw (c := 2) (i := ad) (k := pc) (by omega) had h3
    · rw [if_pos c1]
      exact hK
  · rw [if_neg c1, if_neg c1]
    by_cases c2 : 0 < mc_ct op ∧ ¬ mc_gd S ba bo (ad + mc_ct op - 1)
    · have hrc : mc_rc S ba bo < 65536 := by
        unfold mc_rc
        split <;> omega
      refine ⟨_, kold, kwai, ksnt, ksen, ?_, ?_, rfl⟩
      · rw [if_pos c2, if_neg (show ¬ nI (mc_rc S ba bo) = (-1 : Int32) from fun q => by have := congrArg Int32.toInt q; rw [nI_toInt (by omega)] at this; simp at this), if_pos c2]
        exact q_trapG hw (c := 2) (i := mc_rc S ba bo) (k := pc) (by omega) hrc h3
      · rw [if_pos c2]
        exact hK
    · rw [if_neg c2, if_neg c2, if_pos rfl, if_pos hca]
      have gd1 : 0 < mc_ct op → mc_gd S ba bo (ad + mc_ct op - 1) := fun q => Classical.byContradiction fun z => c2 ⟨q, z⟩
      have e : op = 0 ∨ op = 17 ∨ op = 18 ∨ op = 19 ∨ op = 20 ∨ op = 21 ∨ op = 22 ∨ op = 23 ∨ op = 24 := by omega
      rcases e with rfl | rfl | rfl | rfl | rfl | rfl | rfl | rfl | rfl
      · obtain ⟨z1, z2, z3, z4, z5, z6⟩ := q_pv0 hw ha had hK hc
        exact ⟨_, z1, z2, z3, z4, z5, z6, rfl⟩
      · obtain ⟨z1, z2, z3, z4, z5, z6⟩ := q_pv17 hw ha had hK hc (by have q := (gd1 (by decide)).2; have q2 : mc_ct 17 = 4 := rfl; omega)
        exact ⟨_, z1, z2, z3, z4, z5, z6, rfl⟩
      · obtain ⟨z1, z2, z3, z4, z5, z6⟩ := q_pv18 hw ha had hK hc (by have q := (gd1 (by decide)).2; have q2 : mc_ct 18 = 4 := rfl; omega)
        exact ⟨_, z1, z2, z3, z4, z5, z6, rfl⟩
      · obtain ⟨z1, z2, z3, z4, z5, z6⟩ := q_pv19 hw ha had hK hc
        exact ⟨_, z1, z2, z3, z4, z5, z6, rfl⟩
      · obtain ⟨z1, z2, z3, z4, z5, z6⟩ := q_pv20 hw ha had hK hc
        exact ⟨_, z1, z2, z3, z4, z5, z6, rfl⟩
      · obtain ⟨z1, z2, z3, z4, z5, z6⟩ := q_pv21 hw ha had hK hc
        exact ⟨_, z1, z2, z3, z4, z5, z6, rfl⟩
      · obtain ⟨z1, z2, z3, z4, z5, z6⟩ := q_pv22 hw ha had hK hc
        exact ⟨_, z1, z2, z3, z4, z5, z6, rfl⟩
      · obtain ⟨z1, z2, z3, z4, z5, z6⟩ := q_pv23 hw ha had hK hc (by have q := (gd1 (by decide)).2; have q2 : mc_ct 23 = 16 := rfl; omega)
        exact ⟨_, z1, z2, z3, z4, z5, z6, rfl⟩
      · obtain ⟨z1, z2, z3, z4, z5, z6⟩ := q_pv24 hw ha had hK hc (by have q := (gd1 (by decide)).2; have q2 : mc_ct 24 = 16 := rfl; omega)
        exact ⟨_, z1, z2, z3, z4, z5, z6, rfl⟩
end QME
