section QMF
variable {S md pc ba bo ti op a b n ad : Nat} {ro : Bool} {rg mm dk : Nat → Nat} {cs : mc_K} {kold kwai ksnt : Int32} {ktyp ksen : Nat → Int32}
theorem go_cs {nx : Nat} : (mc_go nx md ba bo ti ro rg mm dk cs).2.2.2.2.2.2.2.2.2.2 = cs := by
  unfold mc_go
  split <;> rfl
theorem q_accG (h : wfM S md pc ba bo ti rg mm dk) (hop : 2 ≤ op ∧ op ≤ 5) (ha : a < 8) (had : ad < 65536) : ((f_MA_access (nI S) (nI md) (nI pc) (nI ba) (nI bo) (rr S ba bo) (nI ti) (bi ro) (nf mm) (nf rg) (nI op) (nI a) (nI ad)).bind fun x => match x with | (a, b, c, d, e, f, g, h, i) => some (a, b, c, d, e, f, g, (0 : Int32), h, i, nf dk, kold, kwai, ksnt, ksen)) = some (cvG S (if mc_gd S ba bo ad then (if op = 2 ∨ op = 4 then mc_go (pc + 2) md ba bo ti ro (mu rg a (mm (ba + ad))) mm dk cs else mc_go (pc + 2) md ba bo ti ro rg (mu mm (ba + ad) (rg a)) dk cs) else mc_trap 2 ad pc md ba bo ti ro rg mm dk cs) kold kwai ksnt ksen) := by
  obtain ⟨h1, h2, h3, h4, h5, h6, h7, h8, h9⟩ := h
  rw [q_access (dk := dk) (cs := cs) h1 (by omega) h3 h4 h5 h6 h8 hop ha had, Option.bind_some]
  unfold mc_go
  by_cases g : mc_gd S ba bo ad
  · rw [if_pos g]
    by_cases o : op = 2 ∨ op = 4
    · rw [if_pos o]
      by_cases hc : md = 1 ∧ 0 < ti
      · rw [if_pos hc]
        rfl
      · rw [if_neg hc]
        rfl
    · rw [if_neg o]
      by_cases hc : md = 1 ∧ 0 < ti
      · rw [if_pos hc]
        rfl
      · rw [if_neg hc]
        rfl
  · rw [if_neg g]
    rfl
theorem q_cmpG (h : wfM S md pc ba bo ti rg mm dk) (hop : (op = 1 ∨ 6 ≤ op) ∧ op ≤ 15) (ha : a < 8) (hb : b < 8) (hn : n < 65536) : ((f_MA_compute (nI md) (nI pc) (nI ti) (bi ro) (nf rg) (nI op) (nI a) (nI b) (nI n)).bind fun x => match x with | (u, v, w, z) => some (nI md, u, nI ba, nI bo, rr S ba bo, v, w, (0 : Int32), nf mm, z, nf dk, kold, kwai, ksnt, ksen)) = some (cvG S (mc_go (mc_alu op a b n pc rg).1 md ba bo ti ro (mc_alu op a b n pc rg).2 mm dk cs) kold kwai ksnt ksen) := by
  obtain ⟨h1, h2, h3, h4, h5, h6, h7, h8, h9⟩ := h
  rw [q_comp (ba := ba) (bo := bo) (mm := mm) (dk := dk) (cs := cs) (by omega) h3 h6 h7 ha hb hn hop, Option.bind_some]
  unfold mc_go
  by_cases hc : md = 1 ∧ 0 < ti
  · rw [if_pos hc]
    rfl
  · rw [if_neg hc]
    rfl
/-- an instruction whose words are good -/
theorem q_ex {w : Nat} (h : wfM S md pc ba bo ti rg mm dk) (hw : w < 65536) (hn : n < 65536) (hpc : pc + 2 < 65536) (hro : md = 1 → ro = false) (hK : KR kold kwai ksnt ktyp ksen cs) (hc : cs.2.2 < 2 ^ 30) : ∃ (kold' kwai' ksnt' : Int32) (ksen' : Nat → Int32), (if nI (w / 64) ≤ (24 : Int32) then (if nI (w / 64) < (2 : Int32) then b_MA_step_189 (nI S) (nI md) (nI pc) (nI ba) (nI bo) (rr S ba bo) (nI ti) (bi ro) 0 (nf mm) (nf rg) (nf dk) kold kwai ksnt ktyp ksen (nI w) (nI n) (nI (w / 64)) (nI (w / 8 % 8)) (nI (w % 8)) else (if (5 : Int32) < nI (w / 64) then b_MA_step_189 (nI S) (nI md) (nI pc) (nI ba) (nI bo) (rr S ba bo) (nI ti) (bi ro) 0 (nf mm) (nf rg) (nf dk) kold kwai ksnt ktyp ksen (nI w) (nI n) (nI (w / 64)) (nI (w / 8 % 8)) (nI (w % 8)) else (if (4 : Int32) ≤ nI (w / 64) then (if ck (nI (w % 8)) 8 then ((f_MA_access (nI S) (nI md) (nI pc) (nI ba) (nI bo) (rr S ba bo) (nI ti) (bi ro) (nf mm) (nf rg) (nI (w / 64)) (nI (w / 8 % 8)) ((nf rg (nI (w % 8)).toNatClampNeg + nI n) &&& 65535)).bind fun x => match x with | (a, b, c, d, e, f, g, h, i) => some (a, b, c, d, e, f, g, (0 : Int32), h, i, nf dk, kold, kwai, ksnt, ksen)) else none) else ((f_MA_access (nI S) (nI md) (nI pc) (nI ba) (nI bo) (rr S ba bo) (nI ti) (bi ro) (nf mm) (nf rg) (nI (w / 64)) (nI (w / 8 % 8)) (nI n)).bind fun x => match x with | (a, b, c, d, e, f, g, h, i) => some (a, b, c, d, e, f, g, (0 : Int32), h, i, nf dk, kold, kwai, ksnt, ksen))))) else ((f_MA_trap (nI S) (nI md) (nI ba) (nI bo) (nf mm) 5 (nI w) (nI pc)).bind fun x => match x with | (a, b, c, d, e, f) => some (a, b, c, d, e, nI ti, bi ro, (0 : Int32), f, nf rg, nf dk, kold, kwai, ksnt, ksen))) = some (cvG S (mc_ex S w n md pc ba bo ti ro rg mm dk cs) kold' kwai' ksnt' ksen') ∧ KR kold' kwai' ksnt' ktyp ksen' (mc_ex S w n md pc ba bo ti ro rg mm dk cs).2.2.2.2.2.2.2.2.2.2 := by
  have hw0 := h
  obtain ⟨h1, h2, h3, h4, h5, h6, h7, h8, h9⟩ := h
  have m1 : w / 8 % 8 < 8 := Nat.mod_lt _ (by decide)
  have m2 : w % 8 < 8 := Nat.mod_lt _ (by decide)
  have e2 : (nI (w % 8)).toNatClampNeg = w % 8 := nI_clamp (by omega)
  have hrb := h7 (w % 8)
  unfold mc_ex
  rw [ic (nIm_24 (by omega)), ic (nIl_2 (by omega)), ic (nIg_5 (by omega)), ic (nIn_4 (by omega))]
  by_cases o24 : 24 < w / 64
  · refine ⟨kold, kwai, ksnt, ksen, ?_, ?_⟩
    · rw [if_neg (show ¬ w / 64 ≤ 24 by omega), if_pos o24]
      exact q_trapG hw0 (c := 5) (i := w) (k := pc) (by omega) hw h3
    · rw [if_pos o24]
      exact hK
  · rw [if_pos (show w / 64 ≤ 24 by omega), if_neg o24]
    by_cases oa : 2 ≤ w / 64 ∧ w / 64 ≤ 5
    · rw [if_neg (show ¬ w / 64 < 2 by omega), if_neg (show ¬ 5 < w / 64 by omega), if_neg (show ¬ (md = 1 ∧ (w / 64 = 0 ∨ 17 ≤ w / 64)) by omega), if_neg (show ¬ w / 64 = 16 by omega), if_pos oa]
      refine ⟨kold, kwai, ksnt, ksen, ?_, ?_⟩
      · by_cases o4 : 4 ≤ w / 64
        · have ead : mc_ad (w / 64) (w % 8) n rg = (rg (w % 8) + n) % 65536 := if_pos (by omega)
          rw [if_pos o4, if_pos ((ck_nI (by omega)).mpr m2), e2, nf_at, nI_add, q_m16 _ (by omega), ead]
          exact q_accG hw0 oa m1 (Nat.mod_lt _ (by decide))
        · have ead : mc_ad (w / 64) (w % 8) n rg = n := if_neg (by omega)
          rw [if_neg o4, ead]
          exact q_accG hw0 oa m1 hn
      · split
        · split
          · rw [go_cs]; exact hK
          · rw [go_cs]; exact hK
        · exact hK
    · -- the rest goes to the block at 189
      have eb : (if w / 64 < 2 then b_MA_step_189 (nI S) (nI md) (nI pc) (nI ba) (nI bo) (rr S ba bo) (nI ti) (bi ro) 0 (nf mm) (nf rg) (nf dk) kold kwai ksnt ktyp ksen (nI w) (nI n) (nI (w / 64)) (nI (w / 8 % 8)) (nI (w % 8)) else (if 5 < w / 64 then b_MA_step_189 (nI S) (nI md) (nI pc) (nI ba) (nI bo) (rr S ba bo) (nI ti) (bi ro) 0 (nf mm) (nf rg) (nf dk) kold kwai ksnt ktyp ksen (nI w) (nI n) (nI (w / 64)) (nI (w / 8 % 8)) (nI (w % 8)) else none)) = b_MA_step_189 (nI S) (nI md) (nI pc) (nI ba) (nI bo) (rr S ba bo) (nI ti) (bi ro) 0 (nf mm) (nf rg) (nf dk) kold kwai ksnt ktyp ksen (nI w) (nI n) (nI (w / 64)) (nI (w / 8 % 8)) (nI (w % 8)) := by
        by_cases o2 : w / 64 < 2
        · rw [if_pos o2]
        · rw [if_neg o2, if_pos (show 5 < w / 64 by omega)]
      have K : ∃ (kold' kwai' ksnt' : Int32) (ksen' : Nat → Int32), b_MA_step_189 (nI S) (nI md) (nI pc) (nI ba) (nI bo) (rr S ba bo) (nI ti) (bi ro) 0 (nf mm) (nf rg) (nf dk) kold kwai ksnt ktyp ksen (nI w) (nI n) (nI (w / 64)) (nI (w / 8 % 8)) (nI (w % 8)) = some (cvG S (if md = 1 ∧ (w / 64 = 0 ∨ 17 ≤ w / 64) then mc_trap 1 w pc md ba bo ti ro rg mm dk cs else if w / 64 = 16 then mc_trap 3 n (pc + 2) md ba bo ti ro rg mm dk cs else if 1 ≤ w / 64 ∧ w / 64 ≤ 15 then mc_go (mc_alu (w / 64) (w / 8 % 8) (w % 8) n pc rg).1 md ba bo ti ro (mc_alu (w / 64) (w / 8 % 8) (w % 8) n pc rg).2 mm dk cs else if 0 < mc_ct (w / 64) ∧ ¬ mc_gd S ba bo (mc_ad (w / 64) (w % 8) n rg) then mc_trap 2 (mc_ad (w / 64) (w % 8) n rg) pc md ba bo ti ro rg mm dk cs else if 0 < mc_ct (w / 64) ∧ ¬ mc_gd S ba bo (mc_ad (w / 64) (w % 8) n rg + mc_ct (w / 64) - 1) then mc_trap 2 (mc_rc S ba bo) pc md ba bo ti ro rg mm dk cs else mc_pv (w / 64) (w / 8 % 8) (mc_ad (w / 64) (w % 8) n rg) md pc ba bo ti ro rg mm dk cs) kold' kwai' ksnt' ksen') ∧ KR kold' kwai' ksnt' ktyp ksen' (if md = 1 ∧ (w / 64 = 0 ∨ 17 ≤ w / 64) then mc_trap 1 w pc md ba bo ti ro rg mm dk cs else if w / 64 = 16 then mc_trap 3 n (pc + 2) md ba bo ti ro rg mm dk cs else if 1 ≤ w / 64 ∧ w / 64 ≤ 15 then mc_go (mc_alu (w / 64) (w / 8 % 8) (w % 8) n pc rg).1 md ba bo ti ro (mc_alu (w / 64) (w / 8 % 8) (w % 8) n pc rg).2 mm dk cs else if 0 < mc_ct (w / 64) ∧ ¬ mc_gd S ba bo (mc_ad (w / 64) (w % 8) n rg) then mc_trap 2 (mc_ad (w / 64) (w % 8) n rg) pc md ba bo ti ro rg mm dk cs else if 0 < mc_ct (w / 64) ∧ ¬ mc_gd S ba bo (mc_ad (w / 64) (w % 8) n rg + mc_ct (w / 64) - 1) then mc_trap 2 (mc_rc S ba bo) pc md ba bo ti ro rg mm dk cs else mc_pv (w / 64) (w / 8 % 8) (mc_ad (w / 64) (w % 8) n rg) md pc ba bo ti ro rg mm dk cs).2.2.2.2.2.2.2.2.2.2 := by
        unfold b_MA_step_189
        rw [ic (nIm_0 (by omega)), ic (nIn_16 (by omega))]
        by_cases oc : 1 ≤ w / 64 ∧ w / 64 ≤ 15
        · rw [if_neg (show ¬ w / 64 ≤ 0 by omega), if_neg (show ¬ 16 ≤ w / 64 by omega), if_neg (show ¬ (md = 1 ∧ (w / 64 = 0 ∨ 17 ≤ w / 64)) by omega), if_neg (show ¬ w / 64 = 16 by omega), if_pos oc]
          refine ⟨kold, kwai, ksnt, ksen, q_cmpG hw0 (by omega) m1 m2 hn, ?_⟩
          rw [go_cs]
          exact hK
        · have e189 : (if w / 64 ≤ 0 then b_MA_step_212 (nI S) (nI md) (nI pc) (nI ba) (nI bo) (rr S ba bo) (nI ti) (bi ro) 0 (nf mm) (nf rg) (nf dk) kold kwai ksnt ktyp ksen (nI w) (nI n) (nI (w / 64)) (nI (w / 8 % 8)) (nI (w % 8)) else (if 16 ≤ w / 64 then b_MA_step_212 (nI S) (nI md) (nI pc) (nI ba) (nI bo) (rr S ba bo) (nI ti) (bi ro) 0 (nf mm) (nf rg) (nf dk) kold kwai ksnt ktyp ksen (nI w) (nI n) (nI (w / 64)) (nI (w / 8 % 8)) (nI (w % 8)) else ((f_MA_compute (nI md) (nI pc) (nI ti) (bi ro) (nf rg) (nI (w / 64)) (nI (w / 8 % 8)) (nI (w % 8)) (nI n)).bind fun x => match x with | (u, v, w, z) => some (nI md, u, nI ba, nI bo, rr S ba bo, v, w, (0 : Int32), nf mm, z, nf dk, kold, kwai, ksnt, ksen)))) = b_MA_step_212 (nI S) (nI md) (nI pc) (nI ba) (nI bo) (rr S ba bo) (nI ti) (bi ro) 0 (nf mm) (nf rg) (nf dk) kold kwai ksnt ktyp ksen (nI w) (nI n) (nI (w / 64)) (nI (w / 8 % 8)) (nI (w % 8)) := by
            by_cases o0 : w / 64 ≤ 0
            · rw [if_pos o0]
            · rw [if_neg o0, if_pos (show 16 ≤ w / 64 by omega)]
          rw [e189]
          unfold b_MA_step_212
          rw [ic (nIe_16 (by omega)), ic (nIe_1 (by omega))]
          by_cases o16 : w / 64 = 16
          · rw [if_pos o16, if_neg (show ¬ (md = 1 ∧ (w / 64 = 0 ∨ 17 ≤ w / 64)) by omega), if_pos o16, nI_p2]
            exact ⟨kold, kwai, ksnt, ksen, q_trapG hw0 (c := 3) (i := n) (k := pc + 2) (by omega) hn hpc, hK⟩
          · rw [if_neg o16]
            by_cases om : md = 1
            · rw [if_pos om, if_pos (show md = 1 ∧ (w / 64 = 0 ∨ 17 ≤ w / 64) from ⟨om, by omega⟩)]
              exact ⟨kold, kwai, ksnt, ksen, q_trapG hw0 (c := 1) (i := w) (k := pc) (by omega) hw h3, hK⟩
            · have hm0 : md = 0 := by omega
              subst hm0
              rw [if_neg om, if_neg (show ¬ (0 = 1 ∧ (w / 64 = 0 ∨ 17 ≤ w / 64)) by omega), if_neg o16, if_neg oc]
              obtain ⟨s', z1, z2, z3, z4, z5, z6, z7⟩ := q_gov (op := w / 64) (a := w / 8 % 8) (b := w % 8) (n := n) (ro := ro) hw0 (by omega) m1 m2 hn hpc hK hc
              rw [← z7]
              refine ⟨z1, z2, z3, z4, ?_, z6⟩
              rw [z5]
              rfl
      obtain ⟨z1, z2, z3, z4, z5, z6⟩ := K
      refine ⟨z1, z2, z3, z4, ?_, ?_⟩
      · have e3 : ∀ X : Option tG, (if w / 64 < 2 then b_MA_step_189 (nI S) (nI md) (nI pc) (nI ba) (nI bo) (rr S ba bo) (nI ti) (bi ro) 0 (nf mm) (nf rg) (nf dk) kold kwai ksnt ktyp ksen (nI w) (nI n) (nI (w / 64)) (nI (w / 8 % 8)) (nI (w % 8)) else (if 5 < w / 64 then b_MA_step_189 (nI S) (nI md) (nI pc) (nI ba) (nI bo) (rr S ba bo) (nI ti) (bi ro) 0 (nf mm) (nf rg) (nf dk) kold kwai ksnt ktyp ksen (nI w) (nI n) (nI (w / 64)) (nI (w / 8 % 8)) (nI (w % 8)) else X)) = b_MA_step_189 (nI S) (nI md) (nI pc) (nI ba) (nI bo) (rr S ba bo) (nI ti) (bi ro) 0 (nf mm) (nf rg) (nf dk) kold kwai ksnt ktyp ksen (nI w) (nI n) (nI (w / 64)) (nI (w / 8 % 8)) (nI (w % 8)) := by
          intro X
          by_cases o2 : w / 64 < 2
          · rw [if_pos o2]
          · rw [if_neg o2, if_pos (show 5 < w / 64 by omega)]
        rw [e3, z5, if_neg oa]
      · rw [if_neg oa]
        exact z6
end QMF
