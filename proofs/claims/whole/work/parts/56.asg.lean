/-! WHAT A LINE DOES: class, the Model's first pass, its second -/
section ASG
variable {T : Nat → Nat} {z : Nat → Int32} {most h lc uc ln lf ls o a b v wf ws ms : Nat} {LF LS LA W : Nat → Nat} {lF lS lA md : Nat → Int32} {slb sul : Nat → Int64} {sla sua suL : Nat → Int32} {zl zms y y4 y5 at' : Int32}
def bhd (h o v : Nat) : Nat := if o = 28 then h else if o = 25 then h + 1 else if o = 26 then h + v else if o = 27 then v else h + 2
def flt (most h lc : Nat) (fd : Bool) (ls o v : Nat) : Nat := if o = 27 ∧ v < h then 1 else if 0 < ls ∧ fd = true then 2 else if 0 < ls ∧ 100 ≤ lc then 3 else if most < bhd h o v then 4 else 0
theorem oI_m1 : ∀ o, o < 29 → (oI o = (-1 : Int32) ↔ o = 28) := by decide +kernel
theorem oI_25 : ∀ o, o < 29 → (oI o = (25 : Int32) ↔ o = 25) := by decide +kernel
theorem oI_26 : ∀ o, o < 29 → (oI o = (26 : Int32) ↔ o = 26) := by decide +kernel
theorem oI_27 : ∀ o, o < 29 → (oI o = (27 : Int32) ↔ o = 27) := by decide +kernel
theorem oI_l0 : ∀ o, o < 29 → (oI o < (0 : Int32) ↔ o = 28) := by decide +kernel
theorem oI_g0 : ∀ o, o < 29 → ((0 : Int32) ≤ oI o ↔ ¬ o = 28) := by decide +kernel
theorem oI_g25 : ∀ o, o < 29 → ((25 : Int32) ≤ oI o ↔ 25 ≤ o ∧ ¬ o = 28) := by decide +kernel
theorem q_bhd (ho : o ≤ 28) : f_AS_lineBehind (nI h) (oI o) (nI v) = some (nI (bhd h o v)) := by
  unfold f_AS_lineBehind bhd
  rw [ic (oI_m1 o (by omega)), ic (oI_25 o (by omega)), ic (oI_26 o (by omega)), ic (oI_27 o (by omega)), nI_1, nI_add, nI_p2]
  repeat' split
  all_goals rfl
theorem bhd_lt (hh : h ≤ 1024) (hv : v < 65536) : bhd h o v < 70000 := by
  unfold bhd
  repeat' split
  all_goals omega
theorem cod_z {q n : Nat} (hq : okN T q n) : lg_cmp (lN (cod T q n)) 0 = (0 : Int32) ↔ n = 0 := by
  rw [lg_0 (okN_63 hq)]
  constructor
  · intro e
    by_cases y : 0 < n
    · have := (cod_lt (T := T) (p := q) n hq.2.2).2 y; omega
    · omega
  · intro e; subst e; rfl
theorem q_flt (hS : tabS T lc LF LS LA) (hC : tabC T lc LF LS LA slb sla) (hl : okN T lf ls) (ho : o ≤ 28) (hh : h ≤ 1024) (hm : most ≤ 1024) (hv : v < 65536) : f_AS_faultOfLine (nI h) (nI lc) slb sla (lN (cod T lf ls)) (oI o) (nI v) (nI most) = some (nI (flt most h lc (decide (fnd T LF LS lc lf ls < lc)) ls o v)) := by
  have hlc := hS.1
  have hb := bhd_lt (o := o) hh hv
  have hF : b_AS_faultOfLine_28 (nI h) (nI lc) slb sla (lN (cod T lf ls)) (oI o) (nI v) (nI most) = some (nI (if 0 < ls ∧ decide (fnd T LF LS lc lf ls < lc) = true then 2 else if 0 < ls ∧ 100 ≤ lc then 3 else if most < bhd h o v then 4 else 0)) := by
    have hend : (if nI (bhd h o v) ≤ nI most then some (0 : Int32) else some 4) = some (nI (if most < bhd h o v then 4 else 0)) := by
      rw [ic (nI_leI (by omega) (by omega))]
      by_cases y : most < bhd h o v
      · rw [if_neg (by omega), if_pos y]; rfl
      · rw [if_pos (by omega), if_neg y]; rfl
    unfold b_AS_faultOfLine_28
    rw [q_bhd ho, Option.bind_some, ic (cod_z hl), q_ad hS hC hl, Option.bind_some]
    by_cases h0 : ls = 0
    · rw [if_pos h0, if_neg (show ¬ (0 < ls ∧ decide (fnd T LF LS lc lf ls < lc) = true) by omega), if_neg (show ¬ (0 < ls ∧ 100 ≤ lc) by omega)]
      exact hend
    · rw [if_neg h0]
      by_cases hf : fnd T LF LS lc lf ls < lc
      · have hA := (hS.2 _ hf).2
        rw [if_pos hf, if_neg (n_m1 (by omega)), if_pos (show 0 < ls ∧ decide (fnd T LF LS lc lf ls < lc) = true from ⟨by omega, decide_eq_true hf⟩)]
        rfl
      · rw [if_neg hf, if_pos rfl, ic (nIl_100 (by omega)), if_neg (show ¬ (0 < ls ∧ decide (fnd T LF LS lc lf ls < lc) = true) from fun q => hf (of_decide_eq_true q.2))]
        by_cases h100 : lc < 100
        · rw [if_pos h100, if_neg (show ¬ (0 < ls ∧ 100 ≤ lc) by omega)]
          exact hend
        · rw [if_neg h100, if_pos (show 0 < ls ∧ 100 ≤ lc by omega)]
          rfl
  unfold f_AS_faultOfLine flt
  rw [ic (oI_27 o (by omega)), ic (nI_leI (by omega) (by omega)), hF]
  by_cases h27 : o = 27
  · rw [if_pos h27]
    by_cases hv2 : h ≤ v
    · rw [if_pos hv2, if_neg (show ¬ (o = 27 ∧ v < h) by omega)]
    · rw [if_neg hv2, if_pos (show o = 27 ∧ v < h by omega)]
      rfl
  · rw [if_neg h27, if_neg (show ¬ (o = 27 ∧ v < h) by omega)]
theorem q_clr {n : Nat} (hn : n ≤ 1024) : ∀ (r i u : Nat) (W : Nat → Nat), i + r = n → r < u → b_AS_clearWords_5 u (nf W) (nI n) (nI i) = some (nf (zz i n W)) := by
  intro r
  induction r with
  | zero =>
    intro i u W h1 h2
    obtain ⟨u, rfl⟩ : ∃ m, u = m + 1 := ⟨u - 1, by omega⟩
    have e : i = n := by omega
    subst e
    rw [b_AS_clearWords_5, if_pos ((nI_leI (by omega) (by omega)).mpr (Nat.le_refl _)), zz_end]
  | succ r ih =>
    intro i u W h1 h2
    obtain ⟨u, rfl⟩ : ∃ m, u = m + 1 := ⟨u - 1, by omega⟩
    have h := ih (i + 1) u (mu W i 0) (by omega) (by omega)
    rw [zz_next (by omega)] at h
    rw [b_AS_clearWords_5, if_neg (fun q => by have := (nI_leI (by omega) (by omega)).mp q; omega), if_pos ((ck_nI (by omega)).mpr (by omega)), nI_clamp (by omega), show (0 : Int32) = nI 0 from rfl, upd_nf, nI_1]
    exact h
def pw (h o a b v : Nat) (W : Nat → Nat) : Nat → Nat := if o < 25 then mu (mu W h (o * 64 + a * 8 + b)) (h + 1) v else if o = 25 then mu W h v else zz h (bhd h o v) W
def uad (h o : Nat) : Nat := if o < 25 then h + 1 else h
def usd (o ws : Nat) : Bool := decide (o ≤ 25 ∧ 0 < ws)
theorem q_pn {ad : Nat} (hw : okN T wf ws) (had : ad < 1024) (hu : uc < 1024) : f_AS_placeNumber (nI uc) (nf W) sul sua suL (nI v) (lN (cod T wf ws)) (nI ad) (nI ln) = some (if 0 < ws then (nI (uc + 1), nf (mu W ad v), vp_updL sul uc (lN (cod T wf ws)), upd sua uc (nI ad), upd suL uc (nI ln)) else (nI uc, nf (mu W ad v), sul, sua, suL)) := by
  unfold f_AS_placeNumber
  rw [if_pos ((ck_nI (by omega)).mpr had), nI_clamp (by omega), upd_nf, ic (cod_z hw)]
  by_cases h0 : ws = 0
  · rw [if_pos h0, if_neg (by omega)]
  · rw [if_neg h0, if_pos (show 0 < ws by omega)]
    simp only [if_pos ((ck_nI (n := uc) (N := 1024) (by omega)).mpr hu), nI_clamp (show uc < 2 ^ 31 by omega), nI_1]
theorem q_pl51 {slc : Int32} (hw : okN T wf ws) (ho : o ≤ 28) (ha : a < 8) (hb : b < 8) (hm : bhd h o v ≤ 1024) (h27 : o = 27 → h ≤ v) (hh : h ≤ 1024) (hu : uc ≤ h) : b_AS_placeLine_51 (nI h) slc (nI uc) (nf W) slb sla sul sua suL (oI o) (nI a) (nI b) (nI v) (lN (cod T wf ws)) (nI ln) = some (nI (bhd h o v), slc, nI (if usd o ws = true then uc + 1 else uc), nf (pw h o a b v W), slb, sla, (if usd o ws = true then vp_updL sul uc (lN (cod T wf ws)) else sul), (if usd o ws = true then upd sua uc (nI (uad h o)) else sua), (if usd o ws = true then upd suL uc (nI ln) else suL)) := by
  unfold b_AS_placeLine_51 f_LI_isInstruction
  rw [q_bhd ho, Option.bind_some, ic (oI_l0 o (by omega)), ic (oI_g25 o (by omega)), ic (oI_25 o (by omega))]
  by_cases h25 : o < 25
  · have eb : bhd h o v = h + 2 := by unfold bhd; rw [if_neg (by omega), if_neg (by omega), if_neg (by omega), if_neg (by omega)]
    have eo : oI o = nI o := if_neg (by omega)
    have e1 : nI o * 64 + nI a * 8 + nI b = nI (o * 64 + a * 8 + b) := by
      have e64 : nI 64 = (64 : Int32) := rfl
      have e8 : nI 8 = (8 : Int32) := rfl
      rw [← e64, ← e8, pk_mul, pk_mul, nI_add, nI_add]
    have ep : pw h o a b v W = mu (mu W h (o * 64 + a * 8 + b)) (h + 1) v := if_pos h25
    have eu : uad h o = h + 1 := if_pos h25
    rw [if_neg (show ¬ o = 28 by omega), if_neg (show ¬ (25 ≤ o ∧ ¬ o = 28) by omega), Option.bind_some, if_neg (show ¬ (1 : Int32) = 0 by decide), if_pos ((ck_nI (by omega)).mpr (by omega)), nI_clamp (by omega), eo, e1, upd_nf, nI_1, q_pn hw (by omega) (by omega), Option.bind_some, ep, eu]
    by_cases h0 : 0 < ws
    · have hd : usd o ws = true := decide_eq_true ⟨by omega, h0⟩
      rw [if_pos h0, hd]; rfl
    · have hd : usd o ws = false := decide_eq_false (by omega)
      rw [if_neg h0, hd]; rfl
  · have e0 : (if o = 28 then some (0 : Int32) else if 25 ≤ o ∧ ¬ o = 28 then some 0 else some 1) = some 0 := by
      by_cases y : o = 28
      · rw [if_pos y]
      · rw [if_neg y, if_pos ⟨by omega, y⟩]
    rw [e0, Option.bind_some, if_pos rfl]
    by_cases h5 : o = 25
    · have eb : bhd h o v = h + 1 := by unfold bhd; rw [if_neg (by omega), if_pos h5]
      have ep : pw h o a b v W = mu W h v := by unfold pw; rw [if_neg h25, if_pos h5]
      have eu : uad h o = h := if_neg h25
      rw [if_pos h5, q_pn hw (by omega) (by omega), Option.bind_some, ep, eu]
      by_cases h0 : 0 < ws
      · have hd : usd o ws = true := decide_eq_true ⟨by omega, h0⟩
        rw [if_pos h0, hd]; rfl
      · have hd : usd o ws = false := decide_eq_false (by omega)
        rw [if_neg h0, hd]; rfl
    · have ep : pw h o a b v W = zz h (bhd h o v) W := by unfold pw; rw [if_neg h25, if_neg h5]
      have hd : usd o ws = false := decide_eq_false (by omega)
      have hle : h ≤ bhd h o v := by
        unfold bhd
        repeat' split
        all_goals omega
      have hq : f_AS_clearWords (nI h) (nf W) (nI (bhd h o v)) = some (nf (zz h (bhd h o v) W)) := q_clr hm (bhd h o v - h) h 65536 W (by omega) (by omega)
      rw [if_neg h5, hq, Option.bind_some, ep, hd]
      rfl
/-- a line without a fault is placed -/
theorem q_place (hl : okN T lf ls) (hw : okN T wf ws) (hlc : 0 < ls → lc < 100) (ho : o ≤ 28) (ha : a < 8) (hb : b < 8) (hm : bhd h o v ≤ 1024) (h27 : o = 27 → h ≤ v) (hh : h ≤ 1024) (hu : uc ≤ h) : f_AS_placeLine (nI h) (nI lc) (nI uc) (nf W) slb sla sul sua suL (lN (cod T lf ls)) (oI o) (nI a) (nI b) (nI v) (lN (cod T wf ws)) (nI ln) = some (nI (bhd h o v), nI (if 0 < ls then lc + 1 else lc), nI (if usd o ws = true then uc + 1 else uc), nf (pw h o a b v W), (if 0 < ls then vp_updL slb lc (lN (cod T lf ls)) else slb), (if 0 < ls then upd sla lc (nI h) else sla), (if usd o ws = true then vp_updL sul uc (lN (cod T wf ws)) else sul), (if usd o ws = true then upd sua uc (nI (uad h o)) else sua), (if usd o ws = true then upd suL uc (nI ln) else suL)) := by
  unfold f_AS_placeLine
  rw [ic (cod_z hl)]
  by_cases h0 : ls = 0
  · rw [if_pos h0, q_pl51 hw ho ha hb hm h27 hh hu, if_neg (show ¬ 0 < ls by omega), if_neg (show ¬ 0 < ls by omega), if_neg (show ¬ 0 < ls by omega)]
  · have hlc' := hlc (by omega)
    rw [if_neg h0, if_pos ((ck_nI (by omega)).mpr hlc'), if_pos ((ck_nI (by omega)).mpr hlc'), nI_1, nI_clamp (by omega), q_pl51 hw ho ha hb hm h27 hh hu, if_pos (show 0 < ls by omega), if_pos (show 0 < ls by omega), if_pos (show 0 < ls by omega)]
/-- the Model: what is behind a line -/
theorem m_520 {x2 x8 x9 zlb : Int32} (ho : o ≤ 28) : b_MD_oneLine_451 at' zl zlb (nI h) zms 1 (nI v) y (nI ws) z lF lS lA md (nI most) x2 (oI o) x8 x9 = b_MD_oneLine_520 at' zl zlb (nI h) zms 1 (nI v) y (nI ws) z lF lS lA md (nI most) x2 (oI o) x8 x9 (nI (bhd h o v)) := by
  unfold b_MD_oneLine_451 bhd
  rw [ic (oI_g0 o (by omega)), ic (oI_g25 o (by omega)), ic (oI_25 o (by omega)), ic (oI_26 o (by omega)), nI_1, nI_add, nI_p2]
  by_cases c1 : o = 28
  · rw [if_neg (show ¬ ¬ o = 28 from fun q => q c1), if_pos c1]
  · rw [if_pos c1, if_neg c1]
    by_cases c2 : o < 25
    · rw [if_neg (show ¬ (25 ≤ o ∧ ¬ o = 28) by omega), if_neg (show ¬ o = 25 by omega), if_neg (show ¬ o = 26 by omega), if_neg (show ¬ o = 27 by omega)]
    · rw [if_pos (show 25 ≤ o ∧ ¬ o = 28 by omega)]
      by_cases c3 : o = 25
      · rw [if_pos c3, if_pos c3]
      · rw [if_neg c3, if_neg c3]
        by_cases c4 : o = 26
        · rw [if_pos c4, if_pos c4]
        · rw [if_neg c4, if_neg c4, if_pos (show o = 27 by omega)]
theorem m_put0 {ad p1 : Int32} : f_MD_put ad md p1 0 = some (ad + 1, md) := by
  unfold f_MD_put
  rw [if_pos rfl]
theorem m_put1 {ad : Nat} {p1 : Int32} (h : ad < 1024) : f_MD_put (nI ad) md p1 1 = some (nI (ad + 1), upd md ad p1) := by
  unfold f_MD_put
  rw [if_neg (show ¬ (1 : Int32) = 0 by decide), if_pos ((ck_nI (by omega)).mpr h), nI_1, nI_clamp (by omega)]
/-- the first pass -/
theorem m_520a {x8 x9 zlb : Int32} (ho : o ≤ 28) (hh : h ≤ 1024) (hm : most ≤ 1024) (hv : v < 65536) : b_MD_oneLine_520 at' zl zlb (nI h) zms 1 (nI v) y (nI ws) z lF lS lA md (nI most) 0 (oI o) x8 x9 (nI (bhd h o v)) = some (if most < bhd h o v then (4, at', zlb, nI h, zms, 1, nI v, y, nI ws, lF, lS, lA, md) else (0, at', zlb, nI (bhd h o v), zms, 1, nI v, y, nI ws, lF, lS, lA, md)) := by
  have hb := bhd_lt (o := o) hh hv
  unfold b_MD_oneLine_520 b_MD_oneLine_579
  rw [ic (nI_leI (by omega) (by omega))]
  by_cases hx : most < bhd h o v
  · rw [if_neg (by omega), if_pos hx]
  · rw [if_pos (by omega), if_neg hx]
    simp only [m_put0, Option.bind_some, if_true]
    repeat' split
    all_goals rfl
theorem m_334a (hT : ∀ i, T i < 256) (hz : tp z T) (hS : tabS T lc LF LS LA) (hM : tabM lc LF LS LA lF lS lA) (hl : okN T lf ls) (hy : 0 < ls → y4 = nI ls ∧ y5 = nI lf) (ho : o ≤ 28) (hh : h ≤ 1024) (hm : most ≤ 1024) (hv : v < 65536) : (¬ flt most h lc (decide (fnd T LF LS lc lf ls < lc)) ls o v = 0 ∧ ∃ a1 a2 a3 a4 a5 a6 a7 a8 a9 a10, b_MD_oneLine_334 at' zl (nI lc) (nI h) zms 1 (nI v) y (nI ws) z lF lS lA md (nI most) 0 y4 y5 (bi (decide (0 < ls))) (oI o) (nI a) (nI b) = some (nI (flt most h lc (decide (fnd T LF LS lc lf ls < lc)) ls o v), a1, a2, a3, zms, a4, a5, a6, a7, a8, a9, a10, md)) ∨ (flt most h lc (decide (fnd T LF LS lc lf ls < lc)) ls o v = 0 ∧ b_MD_oneLine_334 at' zl (nI lc) (nI h) zms 1 (nI v) y (nI ws) z lF lS lA md (nI most) 0 y4 y5 (bi (decide (0 < ls))) (oI o) (nI a) (nI b) = some (0, at', nI (if 0 < ls then lc + 1 else lc), nI (bhd h o v), zms, 1, nI v, y, nI ws, (if 0 < ls then upd lF lc (nI lf) else lF), (if 0 < ls then upd lS lc (nI ls) else lS), (if 0 < ls then upd lA lc (nI h) else lA), md)) := by
  have hlc := hS.1
  unfold b_MD_oneLine_334 flt
  rw [if_neg (show ¬ (1 : Int32) = 0 by decide), ic (oI_27 o (by omega)), ic (nI_leI (by omega) (by omega))]
  by_cases hbad : o = 27 ∧ v < h
  · rw [if_pos hbad.1, if_neg (show ¬ h ≤ v by omega), if_pos hbad]
    unfold b_MD_oneLine_364
    rw [if_pos rfl]
    left
    exact ⟨by omega, _, _, _, _, _, _, _, _, _, _, rfl⟩
  · have e1 : (if o = 27 then (if h ≤ v then b_MD_oneLine_364 at' zl (nI lc) (nI h) zms 1 (nI v) y (nI ws) z lF lS lA md (nI most) 0 y4 y5 (bi (decide (0 < ls))) (oI o) (nI a) (nI b) else b_MD_oneLine_364 at' zl (nI lc) (nI h) zms 0 (nI v) y (nI ws) z lF lS lA md (nI most) 0 y4 y5 (bi (decide (0 < ls))) (oI o) (nI a) (nI b)) else b_MD_oneLine_364 at' zl (nI lc) (nI h) zms 1 (nI v) y (nI ws) z lF lS lA md (nI most) 0 y4 y5 (bi (decide (0 < ls))) (oI o) (nI a) (nI b)) = b_MD_oneLine_364 at' zl (nI lc) (nI h) zms 1 (nI v) y (nI ws) z lF lS lA md (nI most) 0 y4 y5 (bi (decide (0 < ls))) (oI o) (nI a) (nI b) := by
      by_cases h27 : o = 27
      · rw [if_pos h27, if_pos (by omega)]
      · rw [if_neg h27]
    rw [e1, if_neg hbad]
    unfold b_MD_oneLine_364
    rw [if_neg (show ¬ (1 : Int32) = 0 by decide)]
    by_cases h0 : 0 < ls
    · obtain ⟨y1, y2⟩ := hy h0
      rw [decide_eq_true h0, if_neg bi_t, if_pos (show (0 : Int32) = 0 from rfl), y1, y2, m_fnd hT hz hS hM hl, Option.bind_some]
      by_cases hf : fnd T LF LS lc lf ls < lc
      · rw [if_pos hf, if_neg (nI_pos (by omega)), if_pos (show 0 < ls ∧ decide (fnd T LF LS lc lf ls < lc) = true from ⟨h0, decide_eq_true hf⟩)]
        left
        exact ⟨by omega, _, _, _, _, _, _, _, _, _, _, rfl⟩
      · rw [if_neg hf, if_pos (show (-1 : Int32) < 0 by decide), if_neg (show ¬ (0 < ls ∧ decide (fnd T LF LS lc lf ls < lc) = true) from fun q => hf (of_decide_eq_true q.2)), ic (nIe_100 (by omega))]
        by_cases h100 : lc = 100
        · rw [if_pos h100, if_pos (show 0 < ls ∧ 100 ≤ lc by omega)]
          left
          exact ⟨by omega, _, _, _, _, _, _, _, _, _, _, rfl⟩
        · rw [if_neg h100, if_neg (show ¬ (0 < ls ∧ 100 ≤ lc) by omega)]
          simp only [if_pos ((ck_nI (n := lc) (N := 100) (by omega)).mpr (by omega)), nI_clamp (show lc < 2 ^ 31 by omega), nI_1, if_pos h0]
          rw [m_520 ho, m_520a ho hh hm hv]
          by_cases hx : most < bhd h o v
          · rw [if_pos hx, if_pos hx]
            left
            exact ⟨by omega, _, _, _, _, _, _, _, _, _, _, rfl⟩
          · rw [if_neg hx, if_neg hx]
            right
            exact ⟨rfl, rfl⟩
    · rw [decide_eq_false h0, if_pos bi_f, if_neg (show ¬ (0 < ls ∧ decide (fnd T LF LS lc lf ls < lc) = true) from fun q => h0 q.1), if_neg (show ¬ (0 < ls ∧ 100 ≤ lc) by omega)]
      rw [m_520 ho, m_520a ho hh hm hv]
      simp only [if_neg h0]
      by_cases hx : most < bhd h o v
      · rw [if_pos hx, if_pos hx]
        left
        exact ⟨by omega, _, _, _, _, _, _, _, _, _, _, rfl⟩
      · rw [if_neg hx, if_neg hx]
        right
        exact ⟨rfl, rfl⟩
/-- the second pass: the number's word, and the first line that names a label that is nowhere -/
def vlv (T LF LS LA : Nat → Nat) (lc v wf ws : Nat) : Nat := if ws = 0 then v else if fnd T LF LS lc wf ws < lc then (LA (fnd T LF LS lc wf ws) + v) % 65536 else 0
def vlm (T LF LS : Nat → Nat) (lc ln ms wf ws : Nat) : Nat := if ws = 0 then ms else if fnd T LF LS lc wf ws < lc then ms else if ms = 0 then ln else ms
theorem m_vld (hT : ∀ i, T i < 256) (hz : tp z T) (hS : tabS T lc LF LS LA) (hM : tabM lc LF LS LA lF lS lA) (hw : okN T wf ws) (hy : 0 < ws → y = nI wf) (hv : v < 65536) (hms : ms < 2 ^ 31) : f_MD_valued (nI ln) (nI lc) (nI ms) (nI v) y (nI ws) z lF lS lA = some (nI (vlv T LF LS LA lc v wf ws), nI (vlm T LF LS lc ln ms wf ws)) := by
  have hlc := hS.1
  have h8 := hw.1
  unfold f_MD_valued vlv vlm
  rw [ic (nIe_0 (by omega))]
  by_cases h0 : ws = 0
  · rw [if_pos h0, if_pos h0, if_pos h0]
  · rw [if_neg h0, if_neg h0, if_neg h0, hy (by omega), m_fnd hT hz hS hM hw, Option.bind_some]
    by_cases hf : fnd T LF LS lc wf ws < lc
    · have hA := (hS.2 _ hf).2
      obtain ⟨c1, c2, c3⟩ := hM _ hf
      rw [if_pos hf, if_pos hf, if_pos hf, if_pos ((nIn_0 (by omega)).mpr (by omega)), if_pos ((ck_nI (by omega)).mpr (by omega)), nI_clamp (by omega), c3, nI_add, r65 (by omega)]
    · rw [if_neg hf, if_neg hf, if_neg hf, if_neg (show ¬ (0 : Int32) ≤ -1 by decide), ic (nIe_0 hms)]
      by_cases hm0 : ms = 0
      · rw [if_pos hm0, if_pos hm0]; rfl
      · rw [if_neg hm0, if_neg hm0]; rfl
def pm (h o a b x : Nat) (md : Nat → Int32) : Nat → Int32 := if o < 25 then upd (upd md h (nI (64 * o + 8 * a + b))) (h + 1) (nI x) else if o = 25 then upd md h (nI x) else md
theorem m_334b {zlb : Int32} (hT : ∀ i, T i < 256) (hz : tp z T) (hS : tabS T lc LF LS LA) (hM : tabM lc LF LS LA lF lS lA) (hw : okN T wf ws) (hy : 0 < ws → y = nI wf) (ho : o ≤ 28) (hh : h ≤ 1024) (hm : most ≤ 1024) (hv : v < 65536) (hms : ms < 2 ^ 31) (h27 : o = 27 → h ≤ v) (hb : bhd h o v ≤ most) (hlb : zlb = nI lc) : b_MD_oneLine_334 at' (nI ln) zlb (nI h) (nI ms) 1 (nI v) y (nI ws) z lF lS lA md (nI most) 1 y4 y5 (bi (decide (0 < ls))) (oI o) (nI a) (nI b) = some (0, at', zlb, nI (bhd h o v), nI (if o ≤ 25 then vlm T LF LS lc ln ms wf ws else ms), 1, nI v, y, nI ws, lF, lS, lA, pm h o a b (vlv T LF LS LA lc v wf ws) md) := by
  subst hlb
  unfold b_MD_oneLine_334
  rw [if_neg (show ¬ (1 : Int32) = 0 by decide), ic (oI_27 o (by omega)), ic (nI_leI (by omega) (by omega))]
  have e1 : (if o = 27 then (if h ≤ v then b_MD_oneLine_364 at' (nI ln) (nI lc) (nI h) (nI ms) 1 (nI v) y (nI ws) z lF lS lA md (nI most) 1 y4 y5 (bi (decide (0 < ls))) (oI o) (nI a) (nI b) else b_MD_oneLine_364 at' (nI ln) (nI lc) (nI h) (nI ms) 0 (nI v) y (nI ws) z lF lS lA md (nI most) 1 y4 y5 (bi (decide (0 < ls))) (oI o) (nI a) (nI b)) else b_MD_oneLine_364 at' (nI ln) (nI lc) (nI h) (nI ms) 1 (nI v) y (nI ws) z lF lS lA md (nI most) 1 y4 y5 (bi (decide (0 < ls))) (oI o) (nI a) (nI b)) = b_MD_oneLine_364 at' (nI ln) (nI lc) (nI h) (nI ms) 1 (nI v) y (nI ws) z lF lS lA md (nI most) 1 y4 y5 (bi (decide (0 < ls))) (oI o) (nI a) (nI b) := by
    by_cases q : o = 27
    · rw [if_pos q, if_pos (h27 q)]
    · rw [if_neg q]
  rw [e1]
  unfold b_MD_oneLine_364
  rw [if_neg (show ¬ (1 : Int32) = 0 by decide), if_neg (show ¬ (1 : Int32) = 0 by decide)]
  have e2 : (if bi (decide (0 < ls)) = (0 : Int32) then b_MD_oneLine_451 at' (nI ln) (nI lc) (nI h) (nI ms) 1 (nI v) y (nI ws) z lF lS lA md (nI most) 1 (oI o) (nI a) (nI b) else b_MD_oneLine_451 at' (nI ln) (nI lc) (nI h) (nI ms) 1 (nI v) y (nI ws) z lF lS lA md (nI most) 1 (oI o) (nI a) (nI b)) = b_MD_oneLine_451 at' (nI ln) (nI lc) (nI h) (nI ms) 1 (nI v) y (nI ws) z lF lS lA md (nI most) 1 (oI o) (nI a) (nI b) := by
    split <;> rfl
  rw [e2, m_520 ho]
  have hb7 := bhd_lt (o := o) hh hv
  unfold b_MD_oneLine_520 b_MD_oneLine_579 pm
  rw [if_pos ((nI_leI (by omega) (by omega)).mpr hb), ic (oI_l0 o (by omega)), ic (oI_g25 o (by omega)), ic (oI_25 o (by omega)), m_vld hT hz hS hM hw hy hv hms, if_neg (show ¬ (1 : Int32) = 0 by decide)]
  by_cases h25 : o < 25
  · have eb : bhd h o v = h + 2 := by unfold bhd; rw [if_neg (by omega), if_neg (by omega), if_neg (by omega), if_neg (by omega)]
    have eo : oI o = nI o := if_neg (by omega)
    have e3 : (64 : Int32) * nI o + 8 * nI a + nI b = nI (64 * o + 8 * a + b) := by
      have e64 : nI 64 = (64 : Int32) := rfl
      have e8 : nI 8 = (8 : Int32) := rfl
      rw [← e64, ← e8, pk_mul, pk_mul, nI_add, nI_add]
    rw [if_neg (show ¬ o = 28 by omega), if_neg (show ¬ (25 ≤ o ∧ ¬ o = 28) by omega), eo, e3, m_put1 (by omega), Option.bind_some]
    dsimp only
    rw [if_neg (show ¬ (1 : Int32) = 0 by decide), Option.bind_some]
    dsimp only
    rw [m_put1 (by omega), Option.bind_some, if_pos (show o ≤ 25 by omega), if_pos h25]
  · have e4 : ∀ (X Y : Option tO), (if o = 28 then X else if 25 ≤ o ∧ ¬ o = 28 then X else Y) = X := by
      intro X Y
      by_cases q : o = 28
      · rw [if_pos q]
      · rw [if_neg q, if_pos ⟨by omega, q⟩]
    rw [e4]
    by_cases h5 : o = 25
    · have eb : bhd h o v = h + 1 := by unfold bhd; rw [if_neg (by omega), if_pos h5]
      rw [if_pos h5, Option.bind_some]
      dsimp only
      rw [m_put1 (by omega), Option.bind_some, if_pos (show o ≤ 25 by omega), if_neg h25, if_pos h5]
    · rw [if_neg h5, if_neg (show ¬ o ≤ 25 by omega), if_neg h25, if_neg h5]
end ASG
