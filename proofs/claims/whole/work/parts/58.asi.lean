/-! ALL LINES: the class's loop, the Model's two passes -/
section ASI
variable {T : Nat → Nat} {z zw wN : Nat → Int32} {e most l1 : Nat} {zf zfl : Int32}
abbrev t20 : Type := Int32 × Int32 × Int32 × Int32 × Int32 × (Nat → Int32) × (Nat → Int64) × (Nat → Int32) × (Nat → Int64) × (Nat → Int32) × (Nat → Int32) × Nat × Int32 × Int32 × Int64 × Int32 × Int32 × Int32 × Int32 × Int64
abbrev tRr : Type := Int32 × Int32 × Int64 × Int32 × Int32 × Int32 × Int32 × Int64
abbrev tQ : Type := Int32 × Int32 × Int32 × Int32
abbrev t16 : Type := Int32 × Int32 × Int32 × Int32 × Int32 × Int32 × Int32 × Int32 × Int32 × Int32 × Int32 × Int32 × (Nat → Int32) × (Nat → Int32) × (Nat → Int32) × (Nat → Int32)
def clL (l1 u : Nat) (wN : Nat → Int32) (T : Nat → Nat) (e most p ln : Nat) (s : tS) (A : tAr) (l9 : Nat) (R : tRr) : Option t20 := match s, A, R with
  | (h, (lc, _, _, _), (uc, _, _, _, _), W), (slb, sla, sul, sua, suL), (lat, len, llb, lor, laa, lbb, lnu, lwa) => b_AS_assemble_31 l1 u wN (nI h) 0 0 (nI lc) (nI uc) (nf W) slb sla sul sua suL l9 lat len llb lor laa lbb lnu lwa (nf T) (nI e) (nI most) (nI p) (nI (ln + 1))
def clF (s : tS) (A : tAr) (l9 : Nat) (R : tRr) : Option t20 := match s, A, R with
  | (h, (lc, _, _, _), (uc, _, _, _, _), W), (slb, sla, sul, sua, suL), (lat, len, llb, lor, laa, lbb, lnu, lwa) => (f_AS_fillUses 0 0 (nI lc) (nI uc) (nf W) slb sla sul sua suL).bind fun (x, y, w) => some (nI h, x, y, nI lc, nI uc, w, slb, sla, sul, sua, suL, l9, lat, len, llb, lor, laa, lbb, lnu, lwa)
/-- what the class ends with: words placed, fault, its line, words -/
def asR (l1 l9 : Nat) (r : Option t20) (h f fl : Nat) (W : Nat → Nat) : Prop := ∃ y1 y2 y3 y4 y5 y6 y7 l y9 y10 y11 y12 y13 y14 y15 y16, r = some (nI h, nI f, nI fl, y1, y2, nf W, y3, y4, y5, y6, y7, l, y9, y10, y11, y12, y13, y14, y15, y16) ∧ (l = l1 ∨ l = l9)
def mdL (u : Nat) (x2 : Int32) (z zw : Nat → Int32) (e most p ln : Nat) (zf zfl : Int32) (lc h : Nat) (zms : Int32) (Q : tQ) (lF lS lA md : Nat → Int32) : Option t16 := match Q with
  | (g, v, vf, vs) => b_MD_lines_15 u (nI p) (nI e) (nI ln) (nI lc) zf zfl (nI h) zms g v vf vs z zw lF lS lA md (nI most) x2
def mdE (f fl : Nat) (r : Option t16) : Prop := ∃ y1 y2 y3 y4 y5 y6 y7 y8 y9 y10 y11 y12 y13, r = some (0, y1, y2, y3, nI f, nI fl, y4, y5, y6, y7, y8, y9, y10, y11, y12, y13)
def mdO (lc h : Nat) (zf zfl zms : Int32) (lF lS lA md : Nat → Int32) (r : Option t16) : Prop := ∃ y1 y2 y3 y4 y5 y6, r = some (1, y1, y2, nI lc, zf, zfl, nI h, zms, y3, y4, y5, y6, lF, lS, lA, md)
theorem Ms_st {f : Nat → Bool} {UL : Nat → Nat} {i : Nat} (hi : ¬ Ms f UL i = 0) : ∀ (n : Nat), i ≤ n → Ms f UL n = Ms f UL i := by
  intro n
  induction n with
  | zero => intro h; rw [show i = 0 by omega]
  | succ n ih =>
    intro h
    by_cases q : i = n + 1
    · rw [q]
    · have k := ih (by omega)
      show (if Ms f UL n = 0 then (if f n = true then 0 else UL n) else Ms f UL n) = _
      rw [k, if_neg hi]
theorem q_fus {s : tS} {A : tAr} (hm : most ≤ 1024) (hI : aI T most s) (hC : aC T s A) : match s, A with | (h, (lc, LF, LS, LA), (uc, UF, US, UA, UL), W), (slb, sla, sul, sua, suL) => ∀ (r i u : Nat), i + r = uc → r + 1 < u → Ms (fun i => decide (fnd T LF LS lc (UF i) (US i) < lc)) UL i = 0 → (Ms (fun i => decide (fnd T LF LS lc (UF i) (US i) < lc)) UL uc = 0 ∧ b_AS_fillUses_2 u 0 0 (nI lc) (nI uc) (nf (Fw W UA (fun i => LA (fnd T LF LS lc (UF i) (US i))) i)) slb sla sul sua suL (nI i) = some (0, 0, nf (Fw W UA (fun i => LA (fnd T LF LS lc (UF i) (US i))) uc))) ∨ (¬ Ms (fun i => decide (fnd T LF LS lc (UF i) (US i) < lc)) UL uc = 0 ∧ ∃ j, b_AS_fillUses_2 u 0 0 (nI lc) (nI uc) (nf (Fw W UA (fun i => LA (fnd T LF LS lc (UF i) (US i))) i)) slb sla sul sua suL (nI i) = some (5, nI (Ms (fun i => decide (fnd T LF LS lc (UF i) (US i) < lc)) UL uc), nf (Fw W UA (fun i => LA (fnd T LF LS lc (UF i) (US i))) j))) := by
  obtain ⟨h, ⟨lc, LF, LS, LA⟩, ⟨uc, UF, US, UA, UL⟩, W⟩ := s
  obtain ⟨slb, sla, sul, sua, suL⟩ := A
  obtain ⟨i1, i2, i4, i5, i6⟩ := hI
  obtain ⟨c1, c2⟩ := hC
  dsimp only
  intro r
  induction r with
  | zero =>
    intro i u h1 h2 h3
    obtain ⟨u, rfl⟩ : ∃ m, u = m + 1 := ⟨u - 1, by omega⟩
    have e : i = uc := by omega
    subst e
    left
    refine ⟨h3, ?_⟩
    rw [b_AS_fillUses_2, if_pos ((nI_leI (by omega) (by omega)).mpr (Nat.le_refl _))]
  | succ r ih =>
    intro i u h1 h2 h3
    obtain ⟨u, rfl⟩ : ∃ m, u = m + 1 := ⟨u - 1, by omega⟩
    obtain ⟨k1, k2, k3, k4, k5⟩ := i5 i (by omega)
    obtain ⟨d1, d2, d3⟩ := c2 i (by omega)
    have es : Ms (fun i => decide (fnd T LF LS lc (UF i) (US i) < lc)) UL (i + 1) = if decide (fnd T LF LS lc (UF i) (US i) < lc) = true then 0 else UL i := by
      show (if Ms _ UL i = 0 then _ else _) = _
      rw [if_pos h3]
    rw [b_AS_fillUses_2, if_neg (fun q => by have := (nI_leI (by omega) (by omega)).mp q; omega), if_pos rfl]
    simp only [if_pos ((ck_nI (n := i) (N := 1024) (by omega)).mpr (by omega)), nI_clamp (show i < 2 ^ 31 by omega), d1, d2, d3, q_ad i2 c1 k1, Option.bind_some]
    by_cases hf : fnd T LF LS lc (UF i) (US i) < lc
    · have hA := (i2.2 _ hf).2
      have hF := Fw_lt (UA := UA) (t := fun i => LA (fnd T LF LS lc (UF i) (US i))) i6 i (UA i)
      rw [decide_eq_true hf, if_pos rfl] at es
      rw [if_pos hf, if_neg (n_m1 (by omega))]
      simp only [if_pos ((ck_nI (n := UA i) (N := 1024) (by omega)).mpr (by omega)), nI_clamp (show UA i < 2 ^ 31 by omega), nf_at, nI_add]
      rw [q_m16 _ (by omega), upd_nf, nI_1]
      exact ih (i + 1) u (by omega) (by omega) es
    · rw [decide_eq_false hf, if_neg (show ¬ false = true by decide)] at es
      rw [if_neg hf, if_pos rfl]
      have hM := Ms_st (f := fun i => decide (fnd T LF LS lc (UF i) (US i) < lc)) (UL := UL) (i := i + 1) (by rw [es]; omega) uc (by omega)
      right
      refine ⟨by rw [hM, es]; omega, i, ?_⟩
      unfold f_AS_tellFault
      rw [if_neg (show ¬ (5 : Int32) = 0 by decide), Option.bind_some, hM, es]
      obtain ⟨u, rfl⟩ : ∃ m, u = m + 1 := ⟨u - 1, by omega⟩
      dsimp only
      rw [b_AS_fillUses_2, if_neg (show ¬ (5 : Int32) = 0 by decide)]
      split <;> rfl
theorem m_62 {kx : Int32 → Int32 → Int32 → Option t16} {x1 x2 : Int32} (hT : ∀ i, T i < 256) (hz : tp z T) (he : e ≤ 3000) : ∀ (r q u : Nat), q + r = e → r < u → b_MD_lines_62 kx u (nI q) (nI e) z x1 x2 = kx (nI (scn (fun q => decide (¬ T q = 10)) r q)) x1 x2 := by
  intro r
  induction r with
  | zero =>
    intro q u h1 h2
    obtain ⟨u, rfl⟩ : ∃ m, u = m + 1 := ⟨u - 1, by omega⟩
    rw [b_MD_lines_62, if_pos ((nI_leI (by omega) (by omega)).mpr (by omega))]
    rfl
  | succ r ih =>
    intro q u h1 h2
    obtain ⟨u, rfl⟩ : ∃ m, u = m + 1 := ⟨u - 1, by omega⟩
    rw [b_MD_lines_62, if_neg (fun q => by have := (nI_leI (by omega) (by omega)).mp q; omega)]
    simp only [if_pos ((ck_nI (n := q) (N := 3000) (by omega)).mpr (by omega)), nI_clamp (show q < 2 ^ 31 by omega), hz q (by omega), nI_1]
    rw [ic (sxb_l (c := 10) (x := (10 : Int32)) (hT q) (by omega) rfl)]
    show _ = kx (nI (if decide (¬ T q = 10) = true then _ else _)) x1 x2
    by_cases h : T q = 10
    · have hd : decide (¬ T q = 10) = false := by simpa using h
      rw [if_pos h, hd, if_neg (show ¬ false = true by decide)]
    · rw [if_neg h, if_pos (decide_eq_true h)]
      exact ih (q + 1) u (by omega) (by omega)
theorem lnd_mid {p q : Nat} (hp : p ≤ e) (h1 : p ≤ q) (h2 : q ≤ lnd T e p) : lnd T e q = lnd T e p := by
  have hl := lnd_le (T := T) hp
  refine scn_eq h2 (by omega) (fun i h3 h4 => scn_in (P := fun q => decide (¬ T q = 10)) (k := e - p) (p := p) (by omega) h4) (fun h => ?_)
  exact scn_out (P := fun q => decide (¬ T q = 10)) (k := e - p) (p := p) (by unfold lnd at h; omega)
/-- the class stops at a fault -/
theorem q_stop {u f fl p ln : Nat} {s : tS} {A : tAr} {l9 : Nat} {R : tRr} (hf : ¬ f = 0) (hf2 : f < 2 ^ 31) : match s, A, R with | (h, (lc, _, _, _), (uc, _, _, _, _), W), (slb, sla, sul, sua, suL), (lat, len, llb, lor, laa, lbb, lnu, lwa) => b_AS_assemble_31 l1 (u + 1) wN (nI h) (nI f) (nI fl) (nI lc) (nI uc) (nf W) slb sla sul sua suL l9 lat len llb lor laa lbb lnu lwa (nf T) (nI e) (nI most) (nI p) (nI ln) = some (nI h, nI f, nI fl, nI lc, nI uc, nf W, slb, sla, sul, sua, suL, l9, lat, len, llb, lor, laa, lbb, lnu, lwa) := by
  obtain ⟨h, ⟨lc, LF, LS, LA⟩, ⟨uc, UF, US, UA, UL⟩, W⟩ := s
  obtain ⟨slb, sla, sul, sua, suL⟩ := A
  obtain ⟨lat, len, llb, lor, laa, lbb, lnu, lwa⟩ := R
  dsimp only
  have hn : ¬ nI f = (0 : Int32) := fun q => hf ((nIe_0 hf2).mp q)
  rw [b_AS_assemble_31, if_neg hn, if_neg hn]
  split
  · rfl
  · split <;> rfl
/-- one line of the class -/
theorem q_lines {p ln u : Nat} {s : tS} {A : tAr} {l9 : Nat} {R : tRr} (hT : ∀ i, T i < 256) (hW : ∀ o, o < 28 → wN o = nI (wnt o)) (he : e ≤ 3000) (hp : p < e) (hm : most ≤ 1024) (hI : aI T most s) (hC : aC T s A) (hln : ln + 1 < 2 ^ 31) (hlp : ln ≤ p) : match s with | (h, (lc, LF, LS, LA), (uc, UF, US, UA, UL), W) => ((¬ gby T (lnd T e p) p ∨ p_line T (lin T e p) p = none) ∧ asR l1 l9 (clL l1 (u + 2) wN T e most p ln s A l9 R) h 1 (ln + 1) W) ∨ (gby T (lnd T e p) p ∧ ∃ lf ls o a b v wf ws, p_line T (lin T e p) p = some (lf, ls, o, a, b, v, wf, ws) ∧ okN T lf ls ∧ okN T wf ws ∧ o ≤ 28 ∧ a < 8 ∧ b < 8 ∧ v < 65536 ∧ ((¬ flt most h lc (decide (fnd T LF LS lc lf ls < lc)) ls o v = 0 ∧ asR l1 l9 (clL l1 (u + 2) wN T e most p ln s A l9 R) h (flt most h lc (decide (fnd T LF LS lc lf ls < lc)) ls o v) (ln + 1) W) ∨ (flt most h lc (decide (fnd T LF LS lc lf ls < lc)) ls o v = 0 ∧ okL T most s (lf, ls, o, a, b, v, wf, ws) ∧ ∃ R', clL l1 (u + 2) wN T e most p ln s A l9 R = clL l1 (u + 1) wN T e most (lnd T e p + 1) (ln + 1) (nxt (ln + 1) s (lf, ls, o, a, b, v, wf, ws)) (nxA T (ln + 1) s (lf, ls, o, a, b, v, wf, ws) A) l1 R'))) := by
  obtain ⟨h, ⟨lc, LF, LS, LA⟩, ⟨uc, UF, US, UA, UL⟩, W⟩ := s
  obtain ⟨slb, sla, sul, sua, suL⟩ := A
  obtain ⟨lat, len, llb, lor, laa, lbb, lnu, lwa⟩ := R
  have hI0 := hI
  obtain ⟨i1, i2, i4, i5, i6⟩ := hI
  obtain ⟨c1, c2⟩ := hC
  have hle := lnd_le (T := T) (show p ≤ e by omega)
  dsimp only
  have E0 : clL l1 (u + 2) wN T e most p ln (h, (lc, LF, LS, LA), (uc, UF, US, UA, UL), W) (slb, sla, sul, sua, suL) l9 (lat, len, llb, lor, laa, lbb, lnu, lwa) = b_AS_assemble_31 l1 (u + 2) wN (nI h) 0 0 (nI lc) (nI uc) (nf W) slb sla sul sua suL l9 lat len llb lor laa lbb lnu lwa (nf T) (nI e) (nI most) (nI p) (nI (ln + 1)) := rfl
  have tf : ∀ x y : Int32, ¬ x = 0 → f_AS_tellFault 0 0 x y = some (x, y) := by
    intro x y hx
    unfold f_AS_tellFault
    rw [if_neg hx]
  have tf0 : ∀ y : Int32, f_AS_tellFault 0 0 0 y = some (0, 0) := by
    intro y
    unfold f_AS_tellFault
    rw [if_pos rfl]
  rw [E0, b_AS_assemble_31, if_neg (show ¬ nI e < nI (ln + 1) from fun q => by have := (nI_ltI (by omega) (by omega)).mp q; omega), if_neg (fun q => by have := (nI_leI (by omega) (by omega)).mp q; omega), if_pos rfl, q_lend hT he (by omega), Option.bind_some, nI_1, nI_1]
  rcases q_line (T := T) (wN := wN) (l1 := l1) hT hW he (show p ≤ e by omega) with ⟨g1, y1, y2, y3, y4, y5, y6, y7, y8, g2⟩ | ⟨g1, lf, ls, o, a, b, v, wf, ws, y1, y2, g2, g3, g4, g5, g6, g7, g8, g9, g10, g11, g12, g13⟩
  · left
    refine ⟨g1, ?_⟩
    rw [g2, Option.bind_some]
    dsimp only
    rw [if_pos rfl, tf 1 _ (by decide), Option.bind_some]
    dsimp only
    rw [if_neg (show ¬ (1 : Int32) = 0 by decide)]
    have := q_stop (T := T) (wN := wN) (e := e) (most := most) (l1 := l1) (u := u) (f := 1) (fl := ln + 1) (p := lnd T e p + 1) (ln := ln + 1 + 1) (s := (h, (lc, LF, LS, LA), (uc, UF, US, UA, UL), W)) (A := (slb, sla, sul, sua, suL)) (l9 := l1) (R := (y1, y2, y3, y4, y5, y6, y7, y8)) (by omega) (by omega)
    exact ⟨_, _, _, _, _, _, _, _, _, _, _, _, _, _, _, _, this, Or.inl rfl⟩
  · right
    have ol : okN T lf ls := ⟨g3, by omega, g4⟩
    have ow : okN T wf ws := ⟨g10, by omega, g11⟩
    refine ⟨g1, lf, ls, o, a, b, v, wf, ws, g2, ol, ow, g6, g7, g8, g9, ?_⟩
    rw [g13, Option.bind_some]
    dsimp only
    rw [if_neg (show ¬ (1 : Int32) = 0 by decide), q_flt i2 c1 ol g6 (by omega) hm g9, Option.bind_some]
    have hfl : flt most h lc (decide (fnd T LF LS lc lf ls < lc)) ls o v ≤ 4 := by
      unfold flt
      repeat' split
      all_goals omega
    by_cases hf : flt most h lc (decide (fnd T LF LS lc lf ls < lc)) ls o v = 0
    · right
      have hfl0 := hf
      unfold flt at hf
      have hk : (o = 27 → h ≤ v) ∧ (0 < ls → lc < 100) ∧ bhd h o v ≤ most := by
        by_cases c1 : o = 27 ∧ v < h
        · rw [if_pos c1] at hf; omega
        · rw [if_neg c1] at hf
          by_cases c2 : 0 < ls ∧ decide (fnd T LF LS lc lf ls < lc) = true
          · rw [if_pos c2] at hf; omega
          · rw [if_neg c2] at hf
            by_cases c3 : 0 < ls ∧ 100 ≤ lc
            · rw [if_pos c3] at hf; omega
            · rw [if_neg c3] at hf
              by_cases c4 : most < bhd h o v
              · rw [if_pos c4] at hf; omega
              · exact ⟨fun q => by omega, fun q => by omega, by omega⟩
      refine ⟨hfl0, ⟨ol, ow, g6, g7, g8, g9, hk.1, hk.2.1, hk.2.2⟩, (y1, y2, lN (cod T lf ls), oI o, nI a, nI b, nI v, lN (cod T wf ws)), ?_⟩
      rw [hfl0, show nI 0 = (0 : Int32) from rfl, tf0, Option.bind_some]
      dsimp only
      rw [if_pos rfl, q_place ol ow hk.2.1 g6 g7 g8 (by omega) hk.1 (by omega) i4, Option.bind_some]
      rfl
    · left
      refine ⟨hf, ?_⟩
      have hn : ¬ nI (flt most h lc (decide (fnd T LF LS lc lf ls < lc)) ls o v) = (0 : Int32) := fun q => hf ((nIe_0 (by omega)).mp q)
      rw [tf _ _ hn, Option.bind_some]
      dsimp only
      rw [if_neg hn]
      have := q_stop (T := T) (wN := wN) (e := e) (most := most) (l1 := l1) (u := u) (f := flt most h lc (decide (fnd T LF LS lc lf ls < lc)) ls o v) (fl := ln + 1) (p := lnd T e p + 1) (ln := ln + 1 + 1) (s := (h, (lc, LF, LS, LA), (uc, UF, US, UA, UL), W)) (A := (slb, sla, sul, sua, suL)) (l9 := l1) (R := (y1, y2, lN (cod T lf ls), oI o, nI a, nI b, nI v, lN (cod T wf ws))) hf (by omega)
      exact ⟨_, _, _, _, _, _, _, _, _, _, _, _, _, _, _, _, this, Or.inl rfl⟩
end ASI
