/-! A LINE, taken apart: the Model's whole line -/
section ASE
variable {T : Nat → Nat} {z zw lF lS lA md : Nat → Int32} {zl zlb zad zms vf va vs x1 x2 x4 x5 x6 x7 x8 x9 : Int32} {e E p s o a b : Nat}
theorem v_1 : ∀ o, o < 25 → ((nI (wnt o) &&& 1) = (1 : Int32) ↔ wnt o % 2 = 1) := by decide +kernel
theorem v_2 : ∀ o, o < 25 → ((nI (wnt o) &&& 2) = (2 : Int32) ↔ wnt o / 2 % 2 = 1) := by decide +kernel
theorem v_4 : ∀ o, o < 25 → ((nI (wnt o) &&& 4) = (4 : Int32) ↔ ¬ wnt o < 4) := by decide +kernel
theorem v_8 : ∀ o, o < 25 → wnt o ≠ 8 := by decide +kernel
theorem v_25 : ∀ o, o < 28 → 25 ≤ o → wnt o % 2 = 0 ∧ wnt o / 2 % 2 = 0 ∧ ¬ wnt o < 4 ∧ (wnt o = 8 ↔ 25 < o) := by decide +kernel
theorem m_263 (hT : ∀ i, T i < 256) (hz : tp z T) (he : e ≤ 3000) (hE : lnE T e E) (hI : inL T s E) (hs : s ≤ p) (hp : p ≤ E) (hZ : ∀ o, o < 25 → zw o = nI (wnt o)) (ho : o < 25) : ((p_vl T E o p).bind (fun v => if sk T E v.2.2.2 = E then some (a, b, v.1, v.2.1, v.2.2.1) else none) = none ∧ bad_ zlb zad zms lF lS lA md (b_MD_oneLine_263 (nI p) (nI e) zl zlb zad zms 1 0 vf 0 z zw lF lS lA md x1 x2 x4 x5 x6 (nI o) x8 x9)) ∨ (∃ v wf ws y, (p_vl T E o p).bind (fun v => if sk T E v.2.2.2 = E then some (a, b, v.1, v.2.1, v.2.2.1) else none) = some (a, b, v, wf, ws) ∧ v < 65536 ∧ (0 < ws → y = nI wf) ∧ b_MD_oneLine_263 (nI p) (nI e) zl zlb zad zms 1 0 vf 0 z zw lF lS lA md x1 x2 x4 x5 x6 (nI o) x8 x9 = b_MD_oneLine_334 (nI E) zl zlb zad zms 1 (nI v) y (nI ws) z lF lS lA md x1 x2 x4 x5 x6 (nI o) x8 x9) := by
  have hl := hE.1
  have n0 : nI 0 = (0 : Int32) := rfl
  unfold b_MD_oneLine_263 p_vl
  rw [if_pos ((ck_nI (by omega)).mpr ho), nI_clamp (by omega), hZ o ho, ic (v_4 o ho)]
  by_cases h4 : wnt o < 4
  · rw [if_neg (show ¬ ¬ wnt o < 4 from fun q => q h4), if_pos h4, Option.bind_some]
    dsimp only
    obtain ⟨k1, k2⟩ := m_307 (z := z) (zl := zl) (zlb := zlb) (zad := zad) (zms := zms) (va := 0) (vf := vf) (vs := 0) (lF := lF) (lS := lS) (lA := lA) (md := md) (x1 := x1) (x2 := x2) (x4 := x4) (x5 := x5) (x6 := x6) (x7 := nI o) (x8 := x8) (x9 := x9) hT hz he hE hI hs hp
    by_cases h : sk T E p = E
    · right
      exact ⟨0, 0, 0, vf, if_pos h, by omega, fun y => by omega, k2 h⟩
    · left
      exact ⟨if_neg h, k1 h⟩
  · rw [if_pos h4, if_neg h4, decide_eq_false (v_8 o ho)]
    rcases m_val (z := z) (vf := vf) (pl := false) hT hz he hE hp with ⟨a1, q, y1, y2, y3, a2, a3⟩ | ⟨v, wf, ws, q, y, a1, a2, a3, a4, a5, a6⟩
    · left
      have a3' : f_MD_value (nI p) (nI e) 1 vf z 0 = some (nI q, 0, y1, y2, y3) := a3
      rw [a1, a3', Option.bind_some]
      exact ⟨rfl, m_307f hT hz he a2⟩
    · have a6' : f_MD_value (nI p) (nI e) 1 vf z 0 = some (nI q, 1, nI v, y, nI ws) := a6
      rw [a1, a6', Option.bind_some, Option.bind_some]
      dsimp only
      obtain ⟨k1, k2⟩ := m_307 (z := z) (zl := zl) (zlb := zlb) (zad := zad) (zms := zms) (va := nI v) (vf := y) (vs := nI ws) (lF := lF) (lS := lS) (lA := lA) (md := md) (x1 := x1) (x2 := x2) (x4 := x4) (x5 := x5) (x6 := x6) (x7 := nI o) (x8 := x8) (x9 := x9) hT hz he hE hI (Nat.le_trans hs a3) a4
      by_cases h : sk T E q = E
      · right
        exact ⟨v, wf, ws, y, if_pos h, a2, a5, k2 h⟩
      · left
        exact ⟨if_neg h, k1 h⟩
theorem m_263f (hT : ∀ i, T i < 256) (hz : tp z T) (he : e ≤ 3000) (hp : p ≤ e) (ho : o < 25) : bad_ zlb zad zms lF lS lA md (b_MD_oneLine_263 (nI p) (nI e) zl zlb zad zms 0 0 vf 0 z zw lF lS lA md x1 x2 x4 x5 x6 (nI o) x8 x9) := by
  unfold b_MD_oneLine_263
  rw [if_pos ((ck_nI (by omega)).mpr ho)]
  obtain ⟨q, q1, q2⟩ := m_val0 (z := z) (vf := vf) (x := 0) hT hz he hp
  rw [q2, Option.bind_some]
  split
  · exact m_307f hT hz he q1
  · exact m_307f hT hz he hp
theorem m_244 (hT : ∀ i, T i < 256) (hz : tp z T) (he : e ≤ 3000) (hE : lnE T e E) (hI : inL T s E) (hs : s ≤ p) (hp : p ≤ E) (hZ : ∀ o, o < 25 → zw o = nI (wnt o)) (ho : o < 25) : ((p_rg T E (decide (wnt o / 2 % 2 = 1)) p).bind (fun y => (p_vl T E o y.2).bind fun v => if sk T E v.2.2.2 = E then some (a, y.1, v.1, v.2.1, v.2.2.1) else none) = none ∧ bad_ zlb zad zms lF lS lA md (b_MD_oneLine_244 (nI p) (nI e) zl zlb zad zms 1 0 vf 0 z zw lF lS lA md x1 x2 x4 x5 x6 (nI o) x8 0)) ∨ (∃ b v wf ws y, (p_rg T E (decide (wnt o / 2 % 2 = 1)) p).bind (fun y => (p_vl T E o y.2).bind fun v => if sk T E v.2.2.2 = E then some (a, y.1, v.1, v.2.1, v.2.2.1) else none) = some (a, b, v, wf, ws) ∧ b < 8 ∧ v < 65536 ∧ (0 < ws → y = nI wf) ∧ b_MD_oneLine_244 (nI p) (nI e) zl zlb zad zms 1 0 vf 0 z zw lF lS lA md x1 x2 x4 x5 x6 (nI o) x8 0 = b_MD_oneLine_334 (nI E) zl zlb zad zms 1 (nI v) y (nI ws) z lF lS lA md x1 x2 x4 x5 x6 (nI o) x8 (nI b)) := by
  have hl := hE.1
  have n0 : nI 0 = (0 : Int32) := rfl
  unfold b_MD_oneLine_244 p_rg
  rw [if_pos ((ck_nI (by omega)).mpr ho), nI_clamp (by omega), hZ o ho, ic (v_2 o ho)]
  by_cases h : wnt o / 2 % 2 = 1
  · rw [decide_eq_true h, if_pos h, if_pos (show true = true from rfl)]
    rcases m_reg1 (z := z) hT hz he hE hp with ⟨a1, x, q, a2, a3⟩ | ⟨v, q, a1, a2, a3, a4, a5⟩
    · left
      rw [a1, a3, Option.bind_some]
      exact ⟨rfl, m_263f hT hz he a2 ho⟩
    · rw [a1, a5, Option.bind_some, Option.bind_some]
      dsimp only
      rcases m_263 (z := z) (zw := zw) (zl := zl) (zlb := zlb) (zad := zad) (zms := zms) (vf := vf) (lF := lF) (lS := lS) (lA := lA) (md := md) (x1 := x1) (x2 := x2) (x4 := x4) (x5 := x5) (x6 := x6) (x8 := x8) (x9 := nI v) (a := a) (b := v) hT hz he hE hI (Nat.le_trans hs a3) a4 hZ ho with k | ⟨v', wf, ws, y, k1, k2, k3, k4⟩
      · exact Or.inl k
      · exact Or.inr ⟨v, v', wf, ws, y, k1, a2, k2, k3, k4⟩
  · rw [decide_eq_false h, if_neg h, if_neg (show ¬ false = true by decide), Option.bind_some]
    dsimp only
    rcases m_263 (z := z) (zw := zw) (zl := zl) (zlb := zlb) (zad := zad) (zms := zms) (vf := vf) (lF := lF) (lS := lS) (lA := lA) (md := md) (x1 := x1) (x2 := x2) (x4 := x4) (x5 := x5) (x6 := x6) (x8 := x8) (x9 := 0) (a := a) (b := 0) hT hz he hE hI hs hp hZ ho with k | ⟨v', wf, ws, y, k1, k2, k3, k4⟩
    · exact Or.inl k
    · exact Or.inr ⟨0, v', wf, ws, y, k1, by omega, k2, k3, k4⟩
theorem m_244f (hT : ∀ i, T i < 256) (hz : tp z T) (he : e ≤ 3000) (hp : p ≤ e) (ho : o < 25) : bad_ zlb zad zms lF lS lA md (b_MD_oneLine_244 (nI p) (nI e) zl zlb zad zms 0 0 vf 0 z zw lF lS lA md x1 x2 x4 x5 x6 (nI o) x8 x9) := by
  unfold b_MD_oneLine_244
  rw [if_pos ((ck_nI (by omega)).mpr ho)]
  obtain ⟨x, q, q1, q2⟩ := m_reg0 (z := z) hT hz he hp
  rw [q2, Option.bind_some]
  split
  · exact m_263f hT hz he q1 ho
  · exact m_263f hT hz he hp ho
theorem m_211 (hT : ∀ i, T i < 256) (hz : tp z T) (he : e ≤ 3000) (hE : lnE T e E) (hI : inL T s E) (hs : s ≤ p) (hp : p ≤ E) (hZ : ∀ o, o < 25 → zw o = nI (wnt o)) (ho : o < 28) : (p_op T E o p = none ∧ bad_ zlb zad zms lF lS lA md (b_MD_oneLine_211 (nI p) (nI e) zl zlb zad zms 1 0 vf 0 z zw lF lS lA md x1 x2 x4 x5 x6 (nI o) 0 0)) ∨ (∃ a b v wf ws y, p_op T E o p = some (a, b, v, wf, ws) ∧ a < 8 ∧ b < 8 ∧ v < 65536 ∧ (0 < ws → y = nI wf) ∧ b_MD_oneLine_211 (nI p) (nI e) zl zlb zad zms 1 0 vf 0 z zw lF lS lA md x1 x2 x4 x5 x6 (nI o) 0 0 = b_MD_oneLine_334 (nI E) zl zlb zad zms 1 (nI v) y (nI ws) z lF lS lA md x1 x2 x4 x5 x6 (nI o) (nI a) (nI b)) := by
  have hl := hE.1
  have n0 : nI 0 = (0 : Int32) := rfl
  unfold b_MD_oneLine_211 p_op
  rw [if_neg (show ¬ (1 : Int32) = 0 by decide), ic (nIn_25 (by omega))]
  by_cases h25 : 25 ≤ o
  · obtain ⟨w1, w2, w3, w4⟩ := v_25 o ho h25
    rw [if_pos h25, decide_eq_false (show ¬ wnt o % 2 = 1 by omega), decide_eq_false (show ¬ wnt o / 2 % 2 = 1 by omega)]
    have ep : p_rg T E false p = some (0, p) := if_neg (by decide)
    rw [ep, Option.bind_some, ep, Option.bind_some]
    unfold b_MD_oneLine_284 p_vl
    rw [if_neg (show ¬ (1 : Int32) = 0 by decide), if_neg w3, ic (nIm_25 (by omega))]
    dsimp only
    have FIN : ∀ pl : Bool, (((p_val T E p pl).bind fun v => if sk T E v.2.2.2 = E then some (0, 0, v.1, v.2.1, v.2.2.1) else none) = none ∧ bad_ zlb zad zms lF lS lA md ((f_MD_value (nI p) (nI e) 1 vf z (bi pl)).bind fun x => match x with | (zat_36, zgood_36, zvalue_36, zvalueFrom_36, zvalueSize_36) => b_MD_oneLine_307 zat_36 (nI e) zl zlb zad zms zgood_36 zvalue_36 zvalueFrom_36 zvalueSize_36 z lF lS lA md x1 x2 x4 x5 x6 (nI o) 0 0)) ∨ (∃ a b v wf ws y, ((p_val T E p pl).bind fun v => if sk T E v.2.2.2 = E then some (0, 0, v.1, v.2.1, v.2.2.1) else none) = some (a, b, v, wf, ws) ∧ a < 8 ∧ b < 8 ∧ v < 65536 ∧ (0 < ws → y = nI wf) ∧ ((f_MD_value (nI p) (nI e) 1 vf z (bi pl)).bind fun x => match x with | (zat_36, zgood_36, zvalue_36, zvalueFrom_36, zvalueSize_36) => b_MD_oneLine_307 zat_36 (nI e) zl zlb zad zms zgood_36 zvalue_36 zvalueFrom_36 zvalueSize_36 z lF lS lA md x1 x2 x4 x5 x6 (nI o) 0 0) = b_MD_oneLine_334 (nI E) zl zlb zad zms 1 (nI v) y (nI ws) z lF lS lA md x1 x2 x4 x5 x6 (nI o) (nI a) (nI b)) := by
      intro pl
      rcases m_val (z := z) (vf := vf) (pl := pl) hT hz he hE hp with ⟨a1, q, y1, y2, y3, a2, a3⟩ | ⟨v, wf, ws, q, y, a1, a2, a3, a4, a5, a6⟩
      · left
        rw [a1, a3, Option.bind_some]
        exact ⟨rfl, m_307f hT hz he a2⟩
      · rw [a1, a6, Option.bind_some, Option.bind_some]
        dsimp only
        obtain ⟨k1, k2⟩ := m_307 (z := z) (zl := zl) (zlb := zlb) (zad := zad) (zms := zms) (va := nI v) (vf := y) (vs := nI ws) (lF := lF) (lS := lS) (lA := lA) (md := md) (x1 := x1) (x2 := x2) (x4 := x4) (x5 := x5) (x6 := x6) (x7 := nI o) (x8 := 0) (x9 := 0) hT hz he hE hI (Nat.le_trans hs a3) a4
        by_cases h : sk T E q = E
        · right
          exact ⟨0, 0, v, wf, ws, y, if_pos h, by omega, by omega, a2, a5, by rw [n0]; exact k2 h⟩
        · left
          exact ⟨if_neg h, k1 h⟩
    by_cases h26 : o ≤ 25
    · rw [if_pos h26, decide_eq_false (show ¬ wnt o = 8 from fun q => by have := w4.mp q; omega)]
      exact FIN false
    · rw [if_neg h26, decide_eq_true (show wnt o = 8 from w4.mpr (by omega))]
      exact FIN true
  · have ho' : o < 25 := by omega
    rw [if_neg h25, if_pos ((ck_nI (by omega)).mpr ho'), nI_clamp (by omega), hZ o ho', ic (v_1 o ho')]
    by_cases h : wnt o % 2 = 1
    · rw [decide_eq_true h, if_pos h]
      have ep : p_rg T E true p = p_reg T E p := if_pos rfl
      rw [ep]
      rcases m_reg1 (z := z) hT hz he hE hp with ⟨a1, x, q, a2, a3⟩ | ⟨v, q, a1, a2, a3, a4, a5⟩
      · left
        rw [a1, a3, Option.bind_some]
        exact ⟨rfl, m_244f hT hz he a2 ho'⟩
      · rw [a1, a5, Option.bind_some, Option.bind_some]
        dsimp only
        rcases m_244 (z := z) (zw := zw) (zl := zl) (zlb := zlb) (zad := zad) (zms := zms) (vf := vf) (lF := lF) (lS := lS) (lA := lA) (md := md) (x1 := x1) (x2 := x2) (x4 := x4) (x5 := x5) (x6 := x6) (x8 := nI v) (a := v) hT hz he hE hI (Nat.le_trans hs a3) a4 hZ ho' with k | ⟨b, v', wf, ws, y, k1, k2, k3, k4, k5⟩
        · exact Or.inl k
        · exact Or.inr ⟨v, b, v', wf, ws, y, k1, a2, k2, k3, k4, k5⟩
    · rw [decide_eq_false h, if_neg h]
      have ep : p_rg T E false p = some (0, p) := if_neg (by decide)
      rw [ep, Option.bind_some]
      dsimp only
      rcases m_244 (z := z) (zw := zw) (zl := zl) (zlb := zlb) (zad := zad) (zms := zms) (vf := vf) (lF := lF) (lS := lS) (lA := lA) (md := md) (x1 := x1) (x2 := x2) (x4 := x4) (x5 := x5) (x6 := x6) (x8 := 0) (a := 0) hT hz he hE hI hs hp hZ ho' with k | ⟨b, v', wf, ws, y, k1, k2, k3, k4, k5⟩
      · exact Or.inl k
      · exact Or.inr ⟨0, b, v', wf, ws, y, k1, by omega, k2, k3, k4, by rw [n0]; exact k5⟩
theorem m_211f (hT : ∀ i, T i < 256) (hz : tp z T) (he : e ≤ 3000) (hp : p ≤ e) : bad_ zlb zad zms lF lS lA md (b_MD_oneLine_211 (nI p) (nI e) zl zlb zad zms 0 0 vf 0 z zw lF lS lA md x1 x2 x4 x5 x6 x7 0 0) := by
  unfold b_MD_oneLine_211 b_MD_oneLine_284
  rw [if_pos rfl, if_pos rfl]
  exact m_307f hT hz he hp
theorem m_154f (hT : ∀ i, T i < 256) (hz : tp z T) (he : e ≤ 3000) (hE : lnE T e E) (hI : inL T s E) (hs : s ≤ p) (hp : p ≤ E) : bad_ zlb zad zms lF lS lA md (b_MD_oneLine_154 (nI p) (nI e) zl zlb zad zms 0 vf z zw lF lS lA md x1 x2 x4 x5 x6) := by
  have hl := hE.1
  have hk := sk_le (T := T) hp
  have hu := up_le (T := T) (E := e) (p := sk T E p) (by omega)
  unfold b_MD_oneLine_154
  rw [m_sk he hT hz (by omega), Option.bind_some, sk_lim hE hp, m_over hT hz he hE hk.2 (fun q => hI _ (by omega) q), Option.bind_some]
  split
  · rw [m_order hT hz he (by omega), Option.bind_some]
    dsimp only
    rw [if_pos rfl]
    exact m_211f hT hz he hu.2
  · exact m_334f
theorem m_154 (hT : ∀ i, T i < 256) (hz : tp z T) (he : e ≤ 3000) (hE : lnE T e E) (hI : inL T s E) (hs : s ≤ p) (hp : p ≤ E) (hZ : ∀ o, o < 25 → zw o = nI (wnt o)) : (p_rest T E p = none ∧ bad_ zlb zad zms lF lS lA md (b_MD_oneLine_154 (nI p) (nI e) zl zlb zad zms 1 vf z zw lF lS lA md x1 x2 x4 x5 x6)) ∨ (∃ o a b v wf ws y, p_rest T E p = some (o, a, b, v, wf, ws) ∧ o ≤ 28 ∧ a < 8 ∧ b < 8 ∧ v < 65536 ∧ (0 < ws → y = nI wf) ∧ b_MD_oneLine_154 (nI p) (nI e) zl zlb zad zms 1 vf z zw lF lS lA md x1 x2 x4 x5 x6 = b_MD_oneLine_334 (nI E) zl zlb zad zms 1 (nI v) y (nI ws) z lF lS lA md x1 x2 x4 x5 x6 (oI o) (nI a) (nI b)) := by
  have hl := hE.1
  have hk := sk_le (T := T) hp
  have hu := up_le (T := T) (E := E) (p := sk T E p) hk.2
  have n0 : nI 0 = (0 : Int32) := rfl
  unfold b_MD_oneLine_154 p_rest
  rw [m_sk he hT hz (by omega), Option.bind_some, sk_lim hE hp, m_over hT hz he hE hk.2 (fun q => hI _ (by omega) q), Option.bind_some]
  by_cases h1 : sk T E p = E
  · rw [decide_eq_true h1, if_neg bi_t, if_pos h1, h1]
    right
    exact ⟨28, 0, 0, 0, 0, 0, vf, rfl, by omega, by omega, by omega, by omega, fun y => by omega, rfl⟩
  · rw [decide_eq_false h1, if_pos bi_f, if_neg h1, m_order hT hz he (by omega), Option.bind_some, up_lim hE hk.2]
    have hol := ord_le (T := T) (p := sk T E p) (n := up T E (sk T E p) - sk T E p)
    generalize p_ord T (sk T E p) (up T E (sk T E p) - sk T E p) = o at *
    dsimp only
    rw [if_neg (show ¬ (1 : Int32) = 0 by decide)]
    by_cases h2 : o = 28
    · have eo : oI o = -1 := if_pos h2
      rw [if_pos h2, eo, if_pos (show (-1 : Int32) < 0 by decide)]
      left
      exact ⟨rfl, m_211f hT hz he (by omega)⟩
    · have eo : oI o = nI o := if_neg h2
      rw [if_neg h2, eo, if_neg (nI_pos (by omega))]
      rcases m_211 (z := z) (zw := zw) (zl := zl) (zlb := zlb) (zad := zad) (zms := zms) (vf := vf) (lF := lF) (lS := lS) (lA := lA) (md := md) (x1 := x1) (x2 := x2) (x4 := x4) (x5 := x5) (x6 := x6) (p := up T E (sk T E p)) (o := o) hT hz he hE hI (by omega) hu.2 hZ (by omega) with ⟨k1, k2⟩ | ⟨a, b, v, wf, ws, y, k1, k2, k3, k4, k5, k6⟩
      · left
        rw [k1]
        exact ⟨rfl, k2⟩
      · right
        rw [k1]
        exact ⟨o, a, b, v, wf, ws, y, rfl, hol, k2, k3, k4, k5, by rw [eo]; exact k6⟩
theorem ord_0 {q : Nat} : p_ord T q 0 = 28 := by
  unfold p_ord
  refine scn_eq (by omega) (by omega) (fun i h1 h2 => decide_eq_true ?_) (fun h => by omega)
  intro h
  have K : ∀ i, i < 28 → 0 < (nmB i).length := by decide +kernel
  have := K i h2
  have := h.1
  omega
theorem m_88f (hT : ∀ i, T i < 256) (hz : tp z T) (he : e ≤ 3000) (hE : lnE T e E) (hI : inL T s E) (hs : s ≤ p) (hp : p ≤ E) : bad_ zlb zad zms lF lS lA md (b_MD_oneLine_88 (nI p) (nI e) zl zlb zad zms 0 vf z zw lF lS lA md x1 x2) := by
  have hl := hE.1
  have hk := sk_le (T := T) hp
  have hna := na_le (T := T) (E := E) (p := sk T E p) hk.2
  unfold b_MD_oneLine_88
  rw [m_sk he hT hz (by omega), Option.bind_some, sk_lim hE hp, m_nameAt hT hz he hE hk.2, Option.bind_some]
  have F0 : bad_ zlb zad zms lF lS lA md (b_MD_oneLine_133 (nI (sk T E p)) (nI e) zl zlb zad zms 0 vf z zw lF lS lA md x1 x2 (nI (if sml (hc T E (sk T E p)) = true then (if na T E (sk T E p) - sk T E p ≤ 8 then na T E (sk T E p) - sk T E p else 0) else 0)) (nI (sk T E p))) := by
    unfold b_MD_oneLine_133 b_MD_oneLine_136
    rw [if_pos rfl]
    exact m_154f hT hz he hE hI (by omega) hk.2
  have hn : (if sml (hc T E (sk T E p)) = true then (if na T E (sk T E p) - sk T E p ≤ 8 then na T E (sk T E p) - sk T E p else 0) else 0) ≤ na T E (sk T E p) - sk T E p := by
    repeat' split
    all_goals omega
  generalize (if sml (hc T E (sk T E p)) = true then (if na T E (sk T E p) - sk T E p ≤ 8 then na T E (sk T E p) - sk T E p else 0) else 0) = n at *
  split
  · exact F0
  · rw [nI_add, m_byte hT hz he (by omega), Option.bind_some, ic (hr_58 hT), ic (hc_lim hE (show sk T E p + n ≤ E by omega) (by omega))]
    by_cases h5 : hc T E (sk T E p + n) = 58
    · have hlt := hc_p h5 (by omega)
      rw [if_pos h5]
      unfold b_MD_oneLine_136
      rw [if_neg (show ¬ (1 : Int32) = 0 by decide), nI_1, nI_add]
      exact m_154f hT hz he hE hI (by omega) (by omega)
    · rw [if_neg h5]
      exact F0
theorem m_88 (hT : ∀ i, T i < 256) (hz : tp z T) (he : e ≤ 3000) (hE : lnE T e E) (hI : inL T s E) (hs : s ≤ p) (hp : p ≤ E) (hZ : ∀ o, o < 25 → zw o = nI (wnt o)) : (p_line T E p = none ∧ bad_ zlb zad zms lF lS lA md (b_MD_oneLine_88 (nI p) (nI e) zl zlb zad zms 1 vf z zw lF lS lA md x1 x2)) ∨ (∃ lf ls o a b v wf ws y y4 y5, p_line T E p = some (lf, ls, o, a, b, v, wf, ws) ∧ o ≤ 28 ∧ a < 8 ∧ b < 8 ∧ v < 65536 ∧ (0 < ws → y = nI wf) ∧ (0 < ls → y4 = nI ls ∧ y5 = nI lf) ∧ b_MD_oneLine_88 (nI p) (nI e) zl zlb zad zms 1 vf z zw lF lS lA md x1 x2 = b_MD_oneLine_334 (nI E) zl zlb zad zms 1 (nI v) y (nI ws) z lF lS lA md x1 x2 y4 y5 (bi (decide (0 < ls))) (oI o) (nI a) (nI b)) := by
  have hl := hE.1
  have hk := sk_le (T := T) hp
  have hna := na_le (T := T) (E := E) (p := sk T E p) hk.2
  unfold b_MD_oneLine_88 p_line p_lab
  rw [m_sk he hT hz (by omega), Option.bind_some, sk_lim hE hp, m_nameAt hT hz he hE hk.2, Option.bind_some]
  have F0 : ∀ y4 : Int32, sml (hc T E (sk T E p)) = true → bad_ zlb zad zms lF lS lA md (b_MD_oneLine_133 (nI (sk T E p)) (nI e) zl zlb zad zms 1 vf z zw lF lS lA md x1 x2 y4 (nI (sk T E p))) := by
    intro y4 hs'
    have hlt := (sml_an hs').1
    have e1 : hc T E (sk T E p) = T (sk T E p) := if_pos hlt
    rw [e1] at hs'
    have hs2 := of_decide_eq_true hs'
    have e2 : sk T E (sk T E p) = sk T E p := scn_eq (Nat.le_refl _) (by omega) (fun i h5 h6 => by omega) (fun _ => decide_eq_false (by omega))
    have e3 : up T E (sk T E p) = sk T E p := scn_eq (Nat.le_refl _) (by omega) (fun i h5 h6 => by omega) (fun _ => decide_eq_false (by omega))
    have e4 : p_rest T E (sk T E p) = none := by
      unfold p_rest
      rw [e2, if_neg (by omega), e3, Nat.sub_self, if_pos ord_0]
    unfold b_MD_oneLine_133 b_MD_oneLine_136
    rw [if_pos rfl]
    rcases m_154 (z := z) (zw := zw) (zl := zl) (zlb := zlb) (zad := zad) (zms := zms) (vf := vf) (lF := lF) (lS := lS) (lA := lA) (md := md) (x1 := x1) (x2 := x2) (x4 := y4) (x5 := nI (sk T E p)) (x6 := 0) (p := sk T E p) hT hz he hE hI (by omega) hk.2 hZ with ⟨k1, k2⟩ | ⟨o, a, b, v, wf, ws, y, k1, -⟩
    · exact k2
    · rw [e4] at k1; cases k1
  cases hs' : sml (hc T E (sk T E p)) with
  | false =>
    rw [if_neg (show ¬ false = true by decide), if_neg (show ¬ false = true by decide), Option.bind_some, if_pos (show nI 0 ≤ (0 : Int32) by decide)]
    unfold b_MD_oneLine_133 b_MD_oneLine_136
    rw [if_pos rfl]
    dsimp only
    rcases m_154 (z := z) (zw := zw) (zl := zl) (zlb := zlb) (zad := zad) (zms := zms) (vf := vf) (lF := lF) (lS := lS) (lA := lA) (md := md) (x1 := x1) (x2 := x2) (x4 := nI 0) (x5 := nI (sk T E p)) (x6 := 0) (p := sk T E p) hT hz he hE hI (by omega) hk.2 hZ with ⟨k1, k2⟩ | ⟨o, a, b, v, wf, ws, y, k1, k2, k3, k4, k5, k6, k7⟩
    · left
      rw [k1]
      exact ⟨rfl, k2⟩
    · right
      rw [k1]
      exact ⟨0, 0, o, a, b, v, wf, ws, y, nI 0, nI (sk T E p), rfl, k2, k3, k4, k5, k6, fun y => by omega, k7⟩
  | true =>
    have hs'2 := hs'
    obtain ⟨k1, k2⟩ := sml_an hs'
    rw [if_pos (show true = true from rfl), if_pos (show true = true from rfl)]
    by_cases h4 : na T E (sk T E p) - sk T E p ≤ 8
    · rw [if_pos h4, if_neg (show ¬ nI (na T E (sk T E p) - sk T E p) ≤ (0 : Int32) from fun y => by have := (nIm_0 (by omega)).mp y; omega), nI_add, show sk T E p + (na T E (sk T E p) - sk T E p) = na T E (sk T E p) by omega, m_byte hT hz he (by omega), Option.bind_some, ic (hr_58 hT), ic (hc_lim hE hna.2 (by omega))]
      by_cases h5 : hc T E (na T E (sk T E p)) = 58
      · have hlt := hc_p h5 (by omega)
        rw [if_pos h5, if_pos (show na T E (sk T E p) - sk T E p ≤ 8 ∧ hc T E (na T E (sk T E p)) = 58 from ⟨h4, h5⟩), Option.bind_some]
        unfold b_MD_oneLine_136
        rw [if_neg (show ¬ (1 : Int32) = 0 by decide), nI_1, nI_add, show sk T E p + (na T E (sk T E p) - sk T E p + 1) = na T E (sk T E p) + 1 by omega]
        dsimp only
        rcases m_154 (z := z) (zw := zw) (zl := zl) (zlb := zlb) (zad := zad) (zms := zms) (vf := vf) (lF := lF) (lS := lS) (lA := lA) (md := md) (x1 := x1) (x2 := x2) (x4 := nI (na T E (sk T E p) - sk T E p)) (x5 := nI (sk T E p)) (x6 := 1) (p := na T E (sk T E p) + 1) hT hz he hE hI (by omega) (by omega) hZ with ⟨k1, k2⟩ | ⟨o, a, b, v, wf, ws, y, k1, k2, k3, k4, k5, k6, k7⟩
        · left
          rw [k1]
          exact ⟨rfl, k2⟩
        · right
          rw [k1]
          refine ⟨sk T E p, na T E (sk T E p) - sk T E p, o, a, b, v, wf, ws, y, _, _, rfl, k2, k3, k4, k5, k6, fun _ => ⟨rfl, rfl⟩, ?_⟩
          rw [decide_eq_true (show 0 < na T E (sk T E p) - sk T E p by omega)]
          exact k7
      · rw [if_neg h5, if_neg (show ¬ (na T E (sk T E p) - sk T E p ≤ 8 ∧ hc T E (na T E (sk T E p)) = 58) from fun y => h5 y.2)]
        left
        exact ⟨rfl, F0 _ hs'2⟩
    · rw [if_neg h4, if_neg (show ¬ (na T E (sk T E p) - sk T E p ≤ 8 ∧ hc T E (na T E (sk T E p)) = 58) from fun y => h4 y.1), if_pos (show nI 0 ≤ (0 : Int32) by decide)]
      left
      exact ⟨rfl, F0 _ hs'2⟩
theorem m_13 (hT : ∀ i, T i < 256) (hz : tp z T) (he : e ≤ 3000) : ∀ (r i u : Nat) (gd : Bool), i + r = e → r < u → (gd = true ∧ gby T (scn (fun q => decide (¬ T q = 10)) r i) i → b_MD_oneLine_13 u x8 (nI e) zl zlb zad zms (bi gd) vf z zw lF lS lA md x1 x2 (nI i) = b_MD_oneLine_88 x8 (nI e) zl zlb zad zms 1 vf z zw lF lS lA md x1 x2) ∧ (¬ (gd = true ∧ gby T (scn (fun q => decide (¬ T q = 10)) r i) i) → b_MD_oneLine_13 u x8 (nI e) zl zlb zad zms (bi gd) vf z zw lF lS lA md x1 x2 (nI i) = b_MD_oneLine_88 x8 (nI e) zl zlb zad zms 0 vf z zw lF lS lA md x1 x2) := by
  intro r
  induction r with
  | zero =>
    intro i u gd h1 h2
    obtain ⟨u, rfl⟩ : ∃ m, u = m + 1 := ⟨u - 1, by omega⟩
    have hg : gby T (scn (fun q => decide (¬ T q = 10)) 0 i) i := fun j h3 h4 => by have : j < i := h4; omega
    rw [b_MD_oneLine_13, if_pos ((nI_leI (by omega) (by omega)).mpr (by omega))]
    cases gd with
    | true => exact ⟨fun _ => rfl, fun h => absurd ⟨rfl, hg⟩ h⟩
    | false => exact ⟨fun h => (by cases h.1), fun _ => rfl⟩
  | succ r ih =>
    intro i u gd h1 h2
    obtain ⟨u, rfl⟩ : ∃ m, u = m + 1 := ⟨u - 1, by omega⟩
    have hlt := hT i
    have es : scn (fun q => decide (¬ T q = 10)) (r + 1) i = if decide (¬ T i = 10) = true then scn (fun q => decide (¬ T q = 10)) r (i + 1) else i := rfl
    rw [b_MD_oneLine_13, if_neg (fun q => by have := (nI_leI (by omega) (by omega)).mp q; omega)]
    simp only [if_pos ((ck_nI (n := i) (N := 3000) (by omega)).mpr (by omega)), nI_clamp (show i < 2 ^ 31 by omega), hz i (by omega), sxb_and hlt, nI_1]
    rw [ic (sxb_l (c := 10) (x := (10 : Int32)) (hT i) (by omega) rfl)]
    by_cases h10 : T i = 10
    · have e1 : scn (fun q => decide (¬ T q = 10)) (r + 1) i = i := by rw [es, if_neg (by simpa using h10)]
      have hg : gby T (scn (fun q => decide (¬ T q = 10)) (r + 1) i) i := fun j h3 h4 => by rw [e1] at h4; omega
      rw [if_pos h10]
      cases gd with
      | true => exact ⟨fun _ => rfl, fun h => absurd ⟨rfl, hg⟩ h⟩
      | false => exact ⟨fun h => (by cases h.1), fun _ => rfl⟩
    · have e1 : scn (fun q => decide (¬ T q = 10)) (r + 1) i = scn (fun q => decide (¬ T q = 10)) r (i + 1) := by rw [es, if_pos (decide_eq_true h10)]
      have hge := scn_ge (P := fun q => decide (¬ T q = 10)) r (i + 1)
      rw [e1, if_neg h10]
      have key : gby T (scn (fun q => decide (¬ T q = 10)) r (i + 1)) i ↔ (32 ≤ T i ∧ T i ≤ 126) ∧ gby T (scn (fun q => decide (¬ T q = 10)) r (i + 1)) (i + 1) := by
        constructor
        · intro h; exact ⟨h i (Nat.le_refl _) (by omega), fun j h3 h4 => h j (by omega) h4⟩
        · intro h j h3 h4
          by_cases y : j = i
          · subst y; exact h.1
          · exact h.2 j (by omega) h4
      have iht := ih (i + 1) u true (by omega) (by omega)
      have ihf := (ih (i + 1) u false (by omega) (by omega)).2 (fun y => by cases y.1)
      have ihf' : b_MD_oneLine_13 u x8 (nI e) zl zlb zad zms 0 vf z zw lF lS lA md x1 x2 (nI (i + 1)) = b_MD_oneLine_88 x8 (nI e) zl zlb zad zms 0 vf z zw lF lS lA md x1 x2 := ihf
      have iht' : (true = true ∧ gby T (scn (fun q => decide (¬ T q = 10)) r (i + 1)) (i + 1) → b_MD_oneLine_13 u x8 (nI e) zl zlb zad zms 1 vf z zw lF lS lA md x1 x2 (nI (i + 1)) = b_MD_oneLine_88 x8 (nI e) zl zlb zad zms 1 vf z zw lF lS lA md x1 x2) ∧ (¬ (true = true ∧ gby T (scn (fun q => decide (¬ T q = 10)) r (i + 1)) (i + 1)) → b_MD_oneLine_13 u x8 (nI e) zl zlb zad zms 1 vf z zw lF lS lA md x1 x2 (nI (i + 1)) = b_MD_oneLine_88 x8 (nI e) zl zlb zad zms 0 vf z zw lF lS lA md x1 x2) := iht
      cases gd with
      | false =>
        rw [if_pos bi_f]
        exact ⟨fun h => (by cases h.1), fun _ => ihf'⟩
      | true =>
        rw [if_neg bi_t, ic (nIl_32 (by omega)), ic (nIn_127 (by omega))]
        by_cases h32 : T i < 32
        · rw [if_pos h32]
          exact ⟨fun h => by have := (key.mp h.2).1; omega, fun _ => ihf'⟩
        · rw [if_neg h32]
          by_cases h127 : 127 ≤ T i
          · rw [if_pos h127]
            exact ⟨fun h => by have := (key.mp h.2).1; omega, fun _ => ihf'⟩
          · rw [if_neg h127]
            exact ⟨fun h => iht'.1 ⟨rfl, (key.mp h.2).2⟩, fun h => iht'.2 fun y => h ⟨rfl, key.mpr ⟨by omega, y.2⟩⟩⟩
/-- THE MODEL'S LINE -/
theorem m_line (hT : ∀ i, T i < 256) (hz : tp z T) (he : e ≤ 3000) (hp : p ≤ e) (hZ : ∀ o, o < 25 → zw o = nI (wnt o)) : ((¬ gby T (lnd T e p) p ∨ p_line T (lin T e p) p = none) ∧ bad_ zlb zad zms lF lS lA md (f_MD_oneLine (nI p) (nI e) zl zlb zad zms vf z zw lF lS lA md x1 x2)) ∨ (gby T (lnd T e p) p ∧ ∃ lf ls o a b v wf ws y y4 y5, p_line T (lin T e p) p = some (lf, ls, o, a, b, v, wf, ws) ∧ (0 < ws → y = nI wf) ∧ (0 < ls → y4 = nI ls ∧ y5 = nI lf) ∧ f_MD_oneLine (nI p) (nI e) zl zlb zad zms vf z zw lF lS lA md x1 x2 = b_MD_oneLine_334 (nI (lin T e p)) zl zlb zad zms 1 (nI v) y (nI ws) z lF lS lA md x1 x2 y4 y5 (bi (decide (0 < ls))) (oI o) (nI a) (nI b)) := by
  obtain ⟨hk, hk1, hk2⟩ := lin_ok (T := T) hp
  have hI : inL T p (lin T e p) := by
    intro i h1 h2
    constructor
    · have := scn_in (P := fun q => decide (¬ T q = 10)) (k := e - p) (p := p) (i := i) h1 (by unfold lnd at hk2; omega)
      exact of_decide_eq_true this
    · have := scn_in (P := fun q => decide (¬ T q = 59)) (k := lnd T e p - p) (p := p) (i := i) h1 (by unfold lin rmk at h2; omega)
      exact of_decide_eq_true this
  have h13 := m_13 (z := z) (zw := zw) (zl := zl) (zlb := zlb) (zad := zad) (zms := zms) (vf := vf) (lF := lF) (lS := lS) (lA := lA) (md := md) (x1 := x1) (x2 := x2) (x8 := nI p) hT hz he (e - p) p 65536 true (by omega) (by omega)
  rw [show bi true = (1 : Int32) from rfl] at h13
  unfold f_MD_oneLine
  by_cases hg : gby T (lnd T e p) p
  · rw [h13.1 ⟨rfl, hg⟩]
    rcases m_88 (z := z) (zw := zw) (zl := zl) (zlb := zlb) (zad := zad) (zms := zms) (vf := vf) (lF := lF) (lS := lS) (lA := lA) (md := md) (x1 := x1) (x2 := x2) (p := p) (E := lin T e p) hT hz he hk hI (Nat.le_refl _) hk1 hZ with ⟨k1, k2⟩ | ⟨lf, ls, o, a, b, v, wf, ws, y, y4, y5, k1, k2, k3, k4, k5, k6, k7, k8⟩
    · left
      exact ⟨Or.inr k1, k2⟩
    · right
      exact ⟨hg, lf, ls, o, a, b, v, wf, ws, y, y4, y5, k1, k6, k7, k8⟩
  · rw [h13.2 fun y => hg y.2]
    left
    exact ⟨Or.inl hg, m_88f hT hz he hk hI (Nat.le_refl _) hk1⟩
end ASE
