/-! ALL LINES: class and Model together -/
section ASJ
variable {T : Nat → Nat} {z zw wN : Nat → Int32} {e most l1 : Nat} {zf zfl : Int32}
/-- one line of the Model's first pass -/
theorem m_p1 {p ln u : Nat} {s : tS} {zms : Int32} {Q : tQ} {lF lS lA md : Nat → Int32} (hT : ∀ i, T i < 256) (hz : tp z T) (hZ : ∀ o, o < 25 → zw o = nI (wnt o)) (he : e ≤ 3000) (hp : p < e) (hm : most ≤ 1024) (hI : aI T most s) (hM : aM s lF lS lA) : match s with | (h, (lc, LF, LS, LA), (uc, UF, US, UA, UL), W) => ((¬ gby T (lnd T e p) p ∨ p_line T (lin T e p) p = none) → mdE 1 (ln + 1) (mdL (u + 1) 0 z zw e most p ln zf zfl lc h zms Q lF lS lA md)) ∧ ∀ lf ls o a b v wf ws, gby T (lnd T e p) p → p_line T (lin T e p) p = some (lf, ls, o, a, b, v, wf, ws) → okN T lf ls → o ≤ 28 → v < 65536 → (¬ flt most h lc (decide (fnd T LF LS lc lf ls < lc)) ls o v = 0 → mdE (flt most h lc (decide (fnd T LF LS lc lf ls < lc)) ls o v) (ln + 1) (mdL (u + 1) 0 z zw e most p ln zf zfl lc h zms Q lF lS lA md)) ∧ (flt most h lc (decide (fnd T LF LS lc lf ls < lc)) ls o v = 0 → ∃ Q', mdL (u + 1) 0 z zw e most p ln zf zfl lc h zms Q lF lS lA md = mdL u 0 z zw e most (lnd T e p + 1) (ln + 1) zf zfl (if 0 < ls then lc + 1 else lc) (bhd h o v) zms Q' (if 0 < ls then upd lF lc (nI lf) else lF) (if 0 < ls then upd lS lc (nI ls) else lS) (if 0 < ls then upd lA lc (nI h) else lA) md) := by
  obtain ⟨h, ⟨lc, LF, LS, LA⟩, ⟨uc, UF, US, UA, UL⟩, W⟩ := s
  obtain ⟨zg, zv, zvf, zvs⟩ := Q
  obtain ⟨i1, i2, i4, i5, i6⟩ := hI
  have hle := lnd_le (T := T) (show p ≤ e by omega)
  obtain ⟨hk, hk1, hk2⟩ := lin_ok (T := T) (show p ≤ e by omega)
  dsimp only
  have E0 : mdL (u + 1) 0 z zw e most p ln zf zfl lc h zms (zg, zv, zvf, zvs) lF lS lA md = b_MD_lines_15 (u + 1) (nI p) (nI e) (nI ln) (nI lc) zf zfl (nI h) zms zg zv zvf zvs z zw lF lS lA md (nI most) 0 := rfl
  rw [E0, b_MD_lines_15, if_neg (fun q => by have := (nI_leI (by omega) (by omega)).mp q; omega), nI_1]
  rcases m_line (z := z) (zw := zw) (zl := nI (ln + 1)) (zlb := nI lc) (zad := nI h) (zms := zms) (vf := zvf) (lF := lF) (lS := lS) (lA := lA) (md := md) (x1 := nI most) (x2 := 0) hT hz he (show p ≤ e by omega) hZ with ⟨g1, a1, a2, a3, a4, a5, g2⟩ | ⟨g1, lf, ls, o, a, b, v, wf, ws, y, y4, y5, g2, g3, g4, g5⟩
  · constructor
    · intro _
      rw [g2, Option.bind_some]
      exact ⟨_, _, _, _, _, _, _, _, _, _, _, _, _, if_neg (show ¬ (1 : Int32) ≤ 0 by decide)⟩
    · intro lf ls o a b v wf ws h1 h2
      rcases g1 with g1 | g1
      · exact absurd h1 g1
      · rw [g1] at h2; cases h2
  · constructor
    · intro hbad
      rcases hbad with q | q
      · exact absurd g1 q
      · rw [g2] at q; cases q
    · intro lf' ls' o' a' b' v' wf' ws' h1 h2 h3 h4 h5
      rw [g2] at h2
      simp only [Option.some.injEq, Prod.mk.injEq] at h2
      obtain ⟨rfl, rfl, rfl, rfl, rfl, rfl, rfl, rfl⟩ := h2
      have hM' : tabM lc LF LS LA lF lS lA := hM
      rw [g5]
      rcases m_334a (at' := nI (lin T e p)) (zl := nI (ln + 1)) (zms := zms) (y := y) (ws := ws) (md := md) (a := a) (b := b) hT hz i2 hM' h3 g4 h4 (show h ≤ 1024 by omega) hm h5 with ⟨k1, a1, a2, a3, a4, a5, a6, a7, a8, a9, a10, k2⟩ | ⟨k1, k2⟩
      · refine ⟨fun _ => ?_, fun q => absurd q k1⟩
        have hfl : flt most h lc (decide (fnd T LF LS lc lf ls < lc)) ls o v ≤ 4 := by
          unfold flt
          repeat' split
          all_goals omega
        rw [k2, Option.bind_some]
        exact ⟨_, _, _, _, _, _, _, _, _, _, _, _, _, if_neg (fun q => by have := (nIm_0 (by omega)).mp q; omega)⟩
      · refine ⟨fun q => absurd k1 q, fun _ => ⟨(1, nI v, y, nI ws), ?_⟩⟩
        rw [k2, Option.bind_some]
        dsimp only
        rw [if_pos (show (0 : Int32) ≤ 0 by decide), m_62 hT hz he (e - lin T e p) (lin T e p) 65536 (by have := hk.1; omega) (by omega)]
        have el : scn (fun q => decide (¬ T q = 10)) (e - lin T e p) (lin T e p) = lnd T e p := lnd_mid (show p ≤ e by omega) hk1 hk2
        rw [el, nI_1]
        rfl
/-- one line of its second pass -/
theorem m_p2 {p ln u ms lc2 : Nat} {LF2 LS2 LA2 : Nat → Nat} {h lf ls o a b v wf ws : Nat} {Q : tQ} {lF lS lA md : Nat → Int32} (hT : ∀ i, T i < 256) (hz : tp z T) (hZ : ∀ o, o < 25 → zw o = nI (wnt o)) (he : e ≤ 3000) (hp : p < e) (hm : most ≤ 1024) (hS : tabS T lc2 LF2 LS2 LA2) (hM : tabM lc2 LF2 LS2 LA2 lF lS lA) (g1 : gby T (lnd T e p) p) (h2 : p_line T (lin T e p) p = some (lf, ls, o, a, b, v, wf, ws)) (hw : okN T wf ws) (ho : o ≤ 28) (hv : v < 65536) (hms : ms < 2 ^ 31) (hh : h ≤ 1024) (h27 : o = 27 → h ≤ v) (hb : bhd h o v ≤ most) : ∃ Q', mdL (u + 1) 1 z zw e most p ln zf zfl lc2 h (nI ms) Q lF lS lA md = mdL u 1 z zw e most (lnd T e p + 1) (ln + 1) zf zfl lc2 (bhd h o v) (nI (if o ≤ 25 then vlm T LF2 LS2 lc2 (ln + 1) ms wf ws else ms)) Q' lF lS lA (pm h o a b (vlv T LF2 LS2 LA2 lc2 v wf ws) md) := by
  obtain ⟨zg, zv, zvf, zvs⟩ := Q
  have hle := lnd_le (T := T) (show p ≤ e by omega)
  obtain ⟨hk, hk1, hk2⟩ := lin_ok (T := T) (show p ≤ e by omega)
  have E0 : mdL (u + 1) 1 z zw e most p ln zf zfl lc2 h (nI ms) (zg, zv, zvf, zvs) lF lS lA md = b_MD_lines_15 (u + 1) (nI p) (nI e) (nI ln) (nI lc2) zf zfl (nI h) (nI ms) zg zv zvf zvs z zw lF lS lA md (nI most) 1 := rfl
  rw [E0, b_MD_lines_15, if_neg (fun q => by have := (nI_leI (by omega) (by omega)).mp q; omega), nI_1]
  rcases m_line (z := z) (zw := zw) (zl := nI (ln + 1)) (zlb := nI lc2) (zad := nI h) (zms := nI ms) (vf := zvf) (lF := lF) (lS := lS) (lA := lA) (md := md) (x1 := nI most) (x2 := 1) hT hz he (show p ≤ e by omega) hZ with ⟨k1, -⟩ | ⟨k1, lf', ls', o', a', b', v', wf', ws', y, y4, y5, k2, k3, k4, k5⟩
  · rcases k1 with k1 | k1
    · exact absurd g1 k1
    · rw [k1] at h2; cases h2
  · rw [h2] at k2
    simp only [Option.some.injEq, Prod.mk.injEq] at k2
    obtain ⟨rfl, rfl, rfl, rfl, rfl, rfl, rfl, rfl⟩ := k2
    refine ⟨(1, nI v, y, nI ws), ?_⟩
    rw [k5, m_334b hT hz hS hM hw k3 ho hh hm hv hms h27 hb rfl, Option.bind_some]
    dsimp only
    rw [if_pos (show (0 : Int32) ≤ 0 by decide), m_62 hT hz he (e - lin T e p) (lin T e p) 65536 (by have := hk.1; omega) (by omega)]
    have el : scn (fun q => decide (¬ T q = 10)) (e - lin T e p) (lin T e p) = lnd T e p := lnd_mid (show p ≤ e by omega) hk1 hk2
    rw [el, nI_1]
    rfl
theorem asR_l {l9 : Nat} {r : Option t20} {h f fl : Nat} {W : Nat → Nat} (q : asR l1 l1 r h f fl W) : asR l1 l9 r h f fl W := by
  obtain ⟨y1, y2, y3, y4, y5, y6, y7, l, y9, y10, y11, y12, y13, y14, y15, y16, e1, e2⟩ := q
  exact ⟨y1, y2, y3, y4, y5, y6, y7, l, y9, y10, y11, y12, y13, y14, y15, y16, e1, Or.inl (by rcases e2 with e2 | e2 <;> exact e2)⟩
/-- ALL LINES -/
theorem as_loop (hT : ∀ i, T i < 256) (hz : tp z T) (hW : ∀ o, o < 28 → wN o = nI (wnt o)) (hZ : ∀ o, o < 25 → zw o = nI (wnt o)) (he : e ≤ 3000) (hm : most ≤ 1024) : ∀ (k p ln u1 u2 : Nat) (s : tS) (A : tAr) (l9 : Nat) (R : tRr) (zms : Int32) (Q : tQ) (lF lS lA md : Nat → Int32), e + 1 - p ≤ k → p ≤ e + 1 → ln ≤ p → k + 2 < u1 → k < u2 → aI T most s → aC T s A → aM s lF lS lA → (∃ f fl h' W', ¬ f = 0 ∧ f ≤ 4 ∧ fl < 2 ^ 31 ∧ (∀ i, W' i < 65536) ∧ asR l1 l9 (clL l1 u1 wN T e most p ln s A l9 R) h' f fl W' ∧ mdE f fl (mdL u2 0 z zw e most p ln zf zfl s.2.1.1 s.1 zms Q lF lS lA md)) ∨ (∃ (s' : tS) (A' : tAr) (l9' : Nat) (R' : tRr) (lF' lS' lA' : Nat → Int32), aI T most s' ∧ aC T s' A' ∧ aM s' lF' lS' lA' ∧ (l9' = l1 ∨ l9' = l9) ∧ clL l1 u1 wN T e most p ln s A l9 R = clF s' A' l9' R' ∧ mdO s'.2.1.1 s'.1 zf zfl zms lF' lS' lA' md (mdL u2 0 z zw e most p ln zf zfl s.2.1.1 s.1 zms Q lF lS lA md) ∧ ∀ (t : Nat × (Nat → Nat) × (Nat → Nat) × (Nat → Nat)) (lF2 lS2 lA2 md2 : Nat → Int32) (ms u3 : Nat) (Q2 : tQ) (zf2 zfl2 : Int32), tabS T t.1 t.2.1 t.2.2.1 t.2.2.2 → tabM t.1 t.2.1 t.2.2.1 t.2.2.2 lF2 lS2 lA2 → k < u3 → a2 T t s ms md2 → ∃ (ms' : Nat) (md' : Nat → Int32), a2 T t s' ms' md' ∧ mdO t.1 s'.1 zf2 zfl2 (nI ms') lF2 lS2 lA2 md' (mdL u3 1 z zw e most p ln zf2 zfl2 t.1 s.1 (nI ms) Q2 lF2 lS2 lA2 md2)) := by
  have EXIT : ∀ (p ln u1 u2 k : Nat) (s : tS) (A : tAr) (l9 : Nat) (R : tRr) (zms : Int32) (Q : tQ) (lF lS lA md : Nat → Int32), e ≤ p → p ≤ e + 1 → 0 < u1 → 0 < u2 → aI T most s → aC T s A → aM s lF lS lA → (∃ (s' : tS) (A' : tAr) (l9' : Nat) (R' : tRr) (lF' lS' lA' : Nat → Int32), aI T most s' ∧ aC T s' A' ∧ aM s' lF' lS' lA' ∧ (l9' = l1 ∨ l9' = l9) ∧ clL l1 u1 wN T e most p ln s A l9 R = clF s' A' l9' R' ∧ mdO s'.2.1.1 s'.1 zf zfl zms lF' lS' lA' md (mdL u2 0 z zw e most p ln zf zfl s.2.1.1 s.1 zms Q lF lS lA md) ∧ ∀ (t : Nat × (Nat → Nat) × (Nat → Nat) × (Nat → Nat)) (lF2 lS2 lA2 md2 : Nat → Int32) (ms u3 : Nat) (Q2 : tQ) (zf2 zfl2 : Int32), tabS T t.1 t.2.1 t.2.2.1 t.2.2.2 → tabM t.1 t.2.1 t.2.2.1 t.2.2.2 lF2 lS2 lA2 → k < u3 → a2 T t s ms md2 → ∃ (ms' : Nat) (md' : Nat → Int32), a2 T t s' ms' md' ∧ mdO t.1 s'.1 zf2 zfl2 (nI ms') lF2 lS2 lA2 md' (mdL u3 1 z zw e most p ln zf2 zfl2 t.1 s.1 (nI ms) Q2 lF2 lS2 lA2 md2)) := by
    intro p ln u1 u2 k s A l9 R zms Q lF lS lA md h1 h1' h2 h3 hI hC hM
    obtain ⟨u1, rfl⟩ : ∃ m, u1 = m + 1 := ⟨u1 - 1, by omega⟩
    obtain ⟨u2, rfl⟩ : ∃ m, u2 = m + 1 := ⟨u2 - 1, by omega⟩
    refine ⟨s, A, l9, R, lF, lS, lA, hI, hC, hM, Or.inr rfl, ?_, ?_, ?_⟩
    · obtain ⟨h, ⟨lc, LF, LS, LA⟩, ⟨uc, UF, US, UA, UL⟩, W⟩ := s
      obtain ⟨slb, sla, sul, sua, suL⟩ := A
      obtain ⟨lat, len, llb, lor, laa, lbb, lnu, lwa⟩ := R
      show b_AS_assemble_31 l1 (u1 + 1) wN _ _ _ _ _ _ _ _ _ _ _ _ _ _ _ _ _ _ _ _ _ _ _ _ _ = _
      by_cases hq : nI e < nI (ln + 1)
      · rw [b_AS_assemble_31, if_pos hq, if_pos rfl]
        rfl
      · rw [b_AS_assemble_31, if_neg hq, if_pos ((nI_leI (by omega) (by omega)).mpr h1), if_pos rfl]
        rfl
    · obtain ⟨zg, zv, zvf, zvs⟩ := Q
      show mdO _ _ _ _ _ _ _ _ _ (b_MD_lines_15 (u2 + 1) _ _ _ _ _ _ _ _ _ _ _ _ _ _ _ _ _ _ _ _)
      rw [b_MD_lines_15, if_pos ((nI_leI (by omega) (by omega)).mpr h1)]
      exact ⟨_, _, _, _, _, _, rfl⟩
    · intro t lF2 lS2 lA2 md2 ms u3 Q2 zf2 zfl2 t1 t2 t3 t4
      obtain ⟨u3, rfl⟩ : ∃ m, u3 = m + 1 := ⟨u3 - 1, by omega⟩
      obtain ⟨zg, zv, zvf, zvs⟩ := Q2
      refine ⟨ms, md2, t4, ?_⟩
      show mdO _ _ _ _ _ _ _ _ _ (b_MD_lines_15 (u3 + 1) _ _ _ _ _ _ _ _ _ _ _ _ _ _ _ _ _ _ _ _)
      rw [b_MD_lines_15, if_pos ((nI_leI (by omega) (by omega)).mpr h1)]
      exact ⟨_, _, _, _, _, _, rfl⟩
  intro k
  induction k with
  | zero =>
    intro p ln u1 u2 s A l9 R zms Q lF lS lA md h1 h2 h3 h4 h5 hI hC hM
    exact Or.inr (EXIT p ln u1 u2 0 s A l9 R zms Q lF lS lA md (by omega) h2 (by omega) (by omega) hI hC hM)
  | succ k ih =>
    intro p ln u1 u2 s A l9 R zms Q lF lS lA md h1 h2 h3 h4 h5 hI hC hM
    by_cases hpe : e ≤ p
    · exact Or.inr (EXIT p ln u1 u2 (k + 1) s A l9 R zms Q lF lS lA md hpe h2 (by omega) (by omega) hI hC hM)
    · have hp : p < e := by omega
      obtain ⟨u1, rfl⟩ : ∃ m, u1 = m + 2 := ⟨u1 - 2, by omega⟩
      obtain ⟨u2, rfl⟩ : ∃ m, u2 = m + 1 := ⟨u2 - 1, by omega⟩
      have hle := lnd_le (T := T) (show p ≤ e by omega)
      have Q1 := q_lines (T := T) (wN := wN) (l1 := l1) (p := p) (ln := ln) (u := u1) (s := s) (A := A) (l9 := l9) (R := R) hT hW he hp hm hI hC (by omega) h3
      have M1 := m_p1 (T := T) (z := z) (zw := zw) (zf := zf) (zfl := zfl) (p := p) (ln := ln) (u := u2) (s := s) (zms := zms) (Q := Q) (lF := lF) (lS := lS) (lA := lA) (md := md) hT hz hZ he hp hm hI hM
      have hI0 := hI
      obtain ⟨h, ⟨lc, LF, LS, LA⟩, ⟨uc, UF, US, UA, UL⟩, W⟩ := s
      obtain ⟨i1, i2, i4, i5, i6⟩ := hI
      dsimp only at Q1 M1
      obtain ⟨m1, m2⟩ := M1
      rcases Q1 with ⟨g1, g2⟩ | ⟨g1, lf, ls, o, a, b, v, wf, ws, g2, g3, g4, g5, g6, g7, g8, g9⟩
      · exact Or.inl ⟨1, ln + 1, h, W, by omega, by omega, by omega, i6, g2, m1 g1⟩
      · obtain ⟨m3, m4⟩ := m2 lf ls o a b v wf ws g1 g2 g3 g5 g8
        rcases g9 with ⟨f1, f2⟩ | ⟨f1, f2, R', f3⟩
        · have hfl : flt most h lc (decide (fnd T LF LS lc lf ls < lc)) ls o v ≤ 4 := by
            unfold flt
            repeat' split
            all_goals omega
          exact Or.inl ⟨_, ln + 1, h, W, f1, hfl, by omega, i6, f2, m3 f1⟩
        · obtain ⟨Q', m5⟩ := m4 f1
          have hI' := aI_n (ln := ln + 1) hm hI0 f2 (by omega)
          have hC' := aC_n (ln := ln + 1) (l := (lf, ls, o, a, b, v, wf, ws)) hC
          have hM' := aM_n (ln := ln + 1) (l := (lf, ls, o, a, b, v, wf, ws)) hM
          rcases ih (lnd T e p + 1) (ln + 1) (u1 + 1) u2 _ _ l1 R' zms Q' _ _ _ md (by omega) (by omega) (by omega) (by omega) (by omega) hI' hC' hM' with ⟨f, fl, h', W', k1, k2, k3, k4, k5, k6⟩ | ⟨s', A', l9', R2, lF', lS', lA', k1, k2, k3, k4, k5, k6, k7⟩
          · left
            refine ⟨f, fl, h', W', k1, k2, k3, k4, ?_, ?_⟩
            · rw [f3]; exact asR_l k5
            · have m5' : mdL (u2 + 1) 0 z zw e most p ln zf zfl lc h zms Q lF lS lA md = _ := m5
              show mdE f fl (mdL (u2 + 1) 0 z zw e most p ln zf zfl lc h zms Q lF lS lA md)
              rw [m5']
              exact k6
          · right
            refine ⟨s', A', l9', R2, lF', lS', lA', k1, k2, k3, ?_, ?_, ?_, ?_⟩
            · rcases k4 with k4 | k4 <;> exact Or.inl k4
            · rw [f3]; exact k5
            · show mdO _ _ _ _ _ _ _ _ _ (mdL (u2 + 1) 0 z zw e most p ln zf zfl lc h zms Q lF lS lA md)
              rw [m5]
              exact k6
            · intro t lF2 lS2 lA2 md2 ms u3 Q2 zf2 zfl2 t1 t2 t3 t4
              obtain ⟨u3, rfl⟩ : ∃ m, u3 = m + 1 := ⟨u3 - 1, by omega⟩
              have f2' := f2
              obtain ⟨l1', l2', l3', l4', l5', l6', l7', l8', l9''⟩ := f2
              obtain ⟨lc2, LF2, LS2, LA2⟩ := t
              have hms : ms < 2 ^ 31 := by
                have e1 : ms = Ms (fun i => decide (fnd T LF2 LS2 lc2 (UF i) (US i) < lc2)) UL uc := t4.1
                rw [e1]
                exact Ms_lt uc fun i hi => (i5 i hi).2.2.2.2
              obtain ⟨Q3, n1⟩ := m_p2 (T := T) (z := z) (zw := zw) (zf := zf2) (zfl := zfl2) (p := p) (ln := ln) (u := u3) (ms := ms) (Q := Q2) (md := md2) hT hz hZ he hp hm t1 t2 g1 g2 l2' l3' l6' hms (show h ≤ 1024 by omega) l7' l9''
              have n2 := a2_n (ln := ln + 1) hI0 f2' hm (by omega) t4
              obtain ⟨ms', md', n3, n4⟩ := k7 (lc2, LF2, LS2, LA2) lF2 lS2 lA2 _ _ u3 Q3 zf2 zfl2 t1 t2 (by omega) n2
              refine ⟨ms', md', n3, ?_⟩
              show mdO _ _ _ _ _ _ _ _ _ (mdL (u3 + 1) 1 z zw e most p ln zf2 zfl2 lc2 h (nI ms) Q2 lF2 lS2 lA2 md2)
              rw [n1]
              exact n4
end ASJ
