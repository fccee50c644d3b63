/-! ALL LINES: the state of the assembler, and a line's next -/
section ASH
variable {T : Nat → Nat} {most h lc uc ln lf ls o a b v wf ws : Nat} {W : Nat → Nat}
/-- words placed, labels, uses, words -/
abbrev tS : Type := Nat × (Nat × (Nat → Nat) × (Nat → Nat) × (Nat → Nat)) × (Nat × (Nat → Nat) × (Nat → Nat) × (Nat → Nat) × (Nat → Nat)) × (Nat → Nat)
abbrev tL : Type := Nat × Nat × Nat × Nat × Nat × Nat × Nat × Nat
abbrev tAr : Type := (Nat → Int64) × (Nat → Int32) × (Nat → Int64) × (Nat → Int32) × (Nat → Int32)
def aI (T : Nat → Nat) (most : Nat) (s : tS) : Prop := match s with
  | (h, (lc, LF, LS, LA), (uc, UF, US, UA, UL), W) => h ≤ most ∧ tabS T lc LF LS LA ∧ uc ≤ h ∧ (∀ i, i < uc → okN T (UF i) (US i) ∧ 0 < US i ∧ UA i < h ∧ 0 < UL i ∧ UL i < 2 ^ 31) ∧ ∀ i, W i < 65536
def aC (T : Nat → Nat) (s : tS) (A : tAr) : Prop := match s, A with
  | (_, (lc, LF, LS, LA), (uc, UF, US, UA, UL), _), (slb, sla, sul, sua, suL) => tabC T lc LF LS LA slb sla ∧ ∀ i, i < uc → sul i = lN (cod T (UF i) (US i)) ∧ sua i = nI (UA i) ∧ suL i = nI (UL i)
def aM (s : tS) (lF lS lA : Nat → Int32) : Prop := match s with
  | (_, (lc, LF, LS, LA), _, _) => tabM lc LF LS LA lF lS lA
def nxt (ln : Nat) (s : tS) (l : tL) : tS := match s, l with
  | (h, (lc, LF, LS, LA), (uc, UF, US, UA, UL), W), (lf, ls, o, a, b, v, wf, ws) => (bhd h o v, ((if 0 < ls then lc + 1 else lc), (if 0 < ls then mu LF lc lf else LF), (if 0 < ls then mu LS lc ls else LS), (if 0 < ls then mu LA lc h else LA)), ((if usd o ws = true then uc + 1 else uc), (if usd o ws = true then mu UF uc wf else UF), (if usd o ws = true then mu US uc ws else US), (if usd o ws = true then mu UA uc (uad h o) else UA), (if usd o ws = true then mu UL uc ln else UL)), pw h o a b v W)
def nxA (T : Nat → Nat) (ln : Nat) (s : tS) (l : tL) (A : tAr) : tAr := match s, l, A with
  | (h, (lc, _, _, _), (uc, _, _, _, _), _), (lf, ls, o, _, _, _, wf, ws), (slb, sla, sul, sua, suL) => ((if 0 < ls then vp_updL slb lc (lN (cod T lf ls)) else slb), (if 0 < ls then upd sla lc (nI h) else sla), (if usd o ws = true then vp_updL sul uc (lN (cod T wf ws)) else sul), (if usd o ws = true then upd sua uc (nI (uad h o)) else sua), (if usd o ws = true then upd suL uc (nI ln) else suL))
/-- a line without a fault -/
def okL (T : Nat → Nat) (most : Nat) (s : tS) (l : tL) : Prop := match s, l with
  | (h, (lc, _, _, _), _, _), (lf, ls, o, a, b, v, wf, ws) => okN T lf ls ∧ okN T wf ws ∧ o ≤ 28 ∧ a < 8 ∧ b < 8 ∧ v < 65536 ∧ (o = 27 → h ≤ v) ∧ (0 < ls → lc < 100) ∧ bhd h o v ≤ most
theorem pw_lt (ho : o ≤ 28) (ha : a < 8) (hb : b < 8) (hv : v < 65536) (hW : ∀ i, W i < 65536) : ∀ i, pw h o a b v W i < 65536 := by
  intro i
  unfold pw
  split
  · exact mu_lt (mu_lt hW (by omega)) hv i
  · split
    · exact mu_lt hW hv i
    · exact zz_lt hW i
theorem bhd_h (h27 : o = 27 → h ≤ v) : h ≤ bhd h o v := by
  unfold bhd
  repeat' split
  all_goals first | omega | exact h27 (by assumption)
theorem uad_h (ho : o ≤ 25) : h ≤ uad h o ∧ uad h o < bhd h o v := by
  unfold uad bhd
  by_cases q : o < 25
  · rw [if_pos q, if_neg (by omega), if_neg (by omega), if_neg (by omega), if_neg (by omega)]; omega
  · rw [if_neg q, if_neg (by omega), if_pos (by omega)]; omega
theorem aI_n {s : tS} {l : tL} (hm : most ≤ 1024) (hI : aI T most s) (hl : okL T most s l) (hln : 0 < ln ∧ ln < 2 ^ 31) : aI T most (nxt ln s l) := by
  obtain ⟨h, ⟨lc, LF, LS, LA⟩, ⟨uc, UF, US, UA, UL⟩, W⟩ := s
  obtain ⟨lf, ls, o, a, b, v, wf, ws⟩ := l
  obtain ⟨i1, ⟨i2, i3⟩, i4, i5, i6⟩ := hI
  obtain ⟨l1, l2, l3, l4, l5, l6, l7, l8, l9⟩ := hl
  have hb := bhd_h (v := v) l7
  refine ⟨l9, ?_, ?_, ?_, pw_lt l3 l4 l5 l6 i6⟩
  · by_cases q : 0 < ls
    · simp only [if_pos q]
      have := l8 q
      refine ⟨by omega, fun k hk => ?_⟩
      by_cases e : k = lc
      · subst e
        rw [mu_s, mu_s, mu_s]
        exact ⟨l1, by omega⟩
      · rw [mu_n _ _ e, mu_n _ _ e, mu_n _ _ e]
        exact i3 k (by omega)
    · simp only [if_neg q]
      exact ⟨i2, i3⟩
  · cases q : usd o ws with
    | true =>
      have q' := of_decide_eq_true q
      have hu := uad_h (h := h) (v := v) q'.1
      rw [if_pos rfl]
      omega
    | false => rw [if_neg (show ¬ false = true by decide)]; omega
  · cases q : usd o ws with
    | true =>
      have q' := of_decide_eq_true q
      have hu := uad_h (h := h) (v := v) q'.1
      simp only [if_true]
      intro i hi
      by_cases e : i = uc
      · subst e
        rw [mu_s, mu_s, mu_s, mu_s]
        exact ⟨l2, q'.2, hu.2, hln.1, hln.2⟩
      · rw [mu_n _ _ e, mu_n _ _ e, mu_n _ _ e, mu_n _ _ e]
        obtain ⟨k1, k2, k3, k4, k5⟩ := i5 i (by omega)
        exact ⟨k1, k2, by omega, k4, k5⟩
    | false =>
      simp only [if_neg (show ¬ false = true by decide)]
      intro i hi
      obtain ⟨k1, k2, k3, k4, k5⟩ := i5 i hi
      exact ⟨k1, k2, by omega, k4, k5⟩
theorem aC_n {s : tS} {l : tL} {A : tAr} (hC : aC T s A) : aC T (nxt ln s l) (nxA T ln s l A) := by
  obtain ⟨h, ⟨lc, LF, LS, LA⟩, ⟨uc, UF, US, UA, UL⟩, W⟩ := s
  obtain ⟨lf, ls, o, a, b, v, wf, ws⟩ := l
  obtain ⟨slb, sla, sul, sua, suL⟩ := A
  obtain ⟨c1, c2⟩ := hC
  constructor
  · by_cases q : 0 < ls
    · simp only [if_pos q]
      intro k hk
      by_cases e : k = lc
      · subst e
        rw [mu_s, mu_s, mu_s, pk_uLs, pk_us]
        exact ⟨rfl, rfl⟩
      · rw [mu_n _ _ e, mu_n _ _ e, mu_n _ _ e, pk_uLn e, pk_un e]
        exact c1 k (by omega)
    · simp only [if_neg q]
      exact c1
  · cases q : usd o ws with
    | true =>
      simp only [if_true]
      intro i hi
      by_cases e : i = uc
      · subst e
        rw [mu_s, mu_s, mu_s, mu_s, pk_uLs, pk_us, pk_us]
        exact ⟨rfl, rfl, rfl⟩
      · rw [mu_n _ _ e, mu_n _ _ e, mu_n _ _ e, mu_n _ _ e, pk_uLn e, pk_un e, pk_un e]
        exact c2 i (by omega)
    | false =>
      simp only [if_neg (show ¬ false = true by decide)]
      exact c2
theorem aM_n {s : tS} {l : tL} {lF lS lA : Nat → Int32} (hM : aM s lF lS lA) : aM (nxt ln s l) (if 0 < l.2.1 then upd lF s.2.1.1 (nI l.1) else lF) (if 0 < l.2.1 then upd lS s.2.1.1 (nI l.2.1) else lS) (if 0 < l.2.1 then upd lA s.2.1.1 (nI s.1) else lA) := by
  obtain ⟨h, ⟨lc, LF, LS, LA⟩, ⟨uc, UF, US, UA, UL⟩, W⟩ := s
  obtain ⟨lf, ls, o, a, b, v, wf, ws⟩ := l
  show tabM (if 0 < ls then lc + 1 else lc) (if 0 < ls then mu LF lc lf else LF) (if 0 < ls then mu LS lc ls else LS) (if 0 < ls then mu LA lc h else LA) (if 0 < ls then upd lF lc (nI lf) else lF) (if 0 < ls then upd lS lc (nI ls) else lS) (if 0 < ls then upd lA lc (nI h) else lA)
  have hM' : tabM lc LF LS LA lF lS lA := hM
  by_cases q : 0 < ls
  · simp only [if_pos q]
    intro k hk
    by_cases e : k = lc
    · subst e
      rw [mu_s, mu_s, mu_s, pk_us, pk_us, pk_us]
      exact ⟨rfl, rfl, rfl⟩
    · rw [mu_n _ _ e, mu_n _ _ e, mu_n _ _ e, pk_un e, pk_un e, pk_un e]
      exact hM' k (by omega)
  · simp only [if_neg q]
    exact hM'
/-- the words with the labels' addresses; the first line whose label is nowhere -/
def Fw (W UA t : Nat → Nat) : Nat → Nat → Nat
  | 0 => W
  | i + 1 => mu (Fw W UA t i) (UA i) ((Fw W UA t i (UA i) + t i) % 65536)
def Ms (f : Nat → Bool) (UL : Nat → Nat) : Nat → Nat
  | 0 => 0
  | i + 1 => if Ms f UL i = 0 then (if f i = true then 0 else UL i) else Ms f UL i
theorem Fw_ext {W W' UA t : Nat → Nat} : ∀ (n : Nat), (∀ i, i < n → UA i < h) → (∀ j, j < h → W' j = W j) → ∀ j, Fw W' UA t n j = if j < h then Fw W UA t n j else W' j := by
  intro n
  induction n with
  | zero =>
    intro h1 h2 j
    show W' j = if j < h then W j else W' j
    by_cases q : j < h
    · rw [if_pos q, h2 j q]
    · rw [if_neg q]
  | succ n ih =>
    intro h1 h2 j
    have k := ih (fun i hi => h1 i (by omega)) h2
    have ha := h1 n (by omega)
    show mu (Fw W' UA t n) (UA n) ((Fw W' UA t n (UA n) + t n) % 65536) j = if j < h then mu (Fw W UA t n) (UA n) ((Fw W UA t n (UA n) + t n) % 65536) j else W' j
    rw [k (UA n), if_pos ha]
    unfold mu
    by_cases e : j = UA n
    · rw [if_pos e, if_pos e, if_pos (by omega)]
    · rw [if_neg e, if_neg e]
      exact k j
theorem Fw_cg {W UA UA' t t' : Nat → Nat} : ∀ (n : Nat), (∀ i, i < n → UA i = UA' i ∧ t i = t' i) → Fw W UA t n = Fw W UA' t' n := by
  intro n
  induction n with
  | zero => intro h; rfl
  | succ n ih =>
    intro h
    obtain ⟨e1, e2⟩ := h n (by omega)
    show mu (Fw W UA t n) (UA n) ((Fw W UA t n (UA n) + t n) % 65536) = mu (Fw W UA' t' n) (UA' n) ((Fw W UA' t' n (UA' n) + t' n) % 65536)
    rw [ih (fun i hi => h i (by omega)), e1, e2]
theorem Ms_cg {f f' : Nat → Bool} {UL UL' : Nat → Nat} : ∀ (n : Nat), (∀ i, i < n → f i = f' i ∧ UL i = UL' i) → Ms f UL n = Ms f' UL' n := by
  intro n
  induction n with
  | zero => intro h; rfl
  | succ n ih =>
    intro h
    obtain ⟨e1, e2⟩ := h n (by omega)
    show (if Ms f UL n = 0 then (if f n = true then 0 else UL n) else Ms f UL n) = (if Ms f' UL' n = 0 then (if f' n = true then 0 else UL' n) else Ms f' UL' n)
    rw [ih (fun i hi => h i (by omega)), e1, e2]
theorem Fw_lt {W UA t : Nat → Nat} (hW : ∀ i, W i < 65536) : ∀ (n i : Nat), Fw W UA t n i < 65536 := by
  intro n
  induction n with
  | zero => exact hW
  | succ n ih => exact mu_lt ih (Nat.mod_lt _ (by decide))
theorem Ms_lt {f : Nat → Bool} {UL : Nat → Nat} : ∀ (n : Nat), (∀ i, i < n → UL i < 2 ^ 31) → Ms f UL n < 2 ^ 31 := by
  intro n
  induction n with
  | zero => intro h; show 0 < 2 ^ 31; omega
  | succ n ih =>
    intro h
    have := ih (fun i hi => h i (by omega))
    have := h n (by omega)
    show (if Ms f UL n = 0 then (if f n = true then 0 else UL n) else Ms f UL n) < 2 ^ 31
    repeat' split
    all_goals omega
/-- the second pass, with the labels of the table -/
def a2 (T : Nat → Nat) (t : Nat × (Nat → Nat) × (Nat → Nat) × (Nat → Nat)) (s : tS) (ms : Nat) (md : Nat → Int32) : Prop := match t, s with
  | (lc2, LF2, LS2, LA2), (h, _, (uc, UF, US, UA, UL), W) => ms = Ms (fun i => decide (fnd T LF2 LS2 lc2 (UF i) (US i) < lc2)) UL uc ∧ (ms = 0 → ∀ j, j < 1024 → md j = nI (if j < h then Fw W UA (fun i => LA2 (fnd T LF2 LS2 lc2 (UF i) (US i))) uc j else 0))
theorem pw_lo (j : Nat) (hj : j < h) : pw h o a b v W j = W j := by
  unfold pw
  split
  · rw [mu_n _ _ (by omega), mu_n _ _ (by omega)]
  · split
    · rw [mu_n _ _ (by omega)]
    · unfold zz; rw [if_neg (by omega)]
theorem a2_n {t : Nat × (Nat → Nat) × (Nat → Nat) × (Nat → Nat)} {h lc uc : Nat} {LF LS LA UF US UA UL W : Nat → Nat} {ms : Nat} {md : Nat → Int32} (hI : aI T most (h, (lc, LF, LS, LA), (uc, UF, US, UA, UL), W)) (hl : okL T most (h, (lc, LF, LS, LA), (uc, UF, US, UA, UL), W) (lf, ls, o, a, b, v, wf, ws)) (hm : most ≤ 1024) (hln : 0 < ln) (h2 : a2 T t (h, (lc, LF, LS, LA), (uc, UF, US, UA, UL), W) ms md) : a2 T t (nxt ln (h, (lc, LF, LS, LA), (uc, UF, US, UA, UL), W) (lf, ls, o, a, b, v, wf, ws)) (if o ≤ 25 then vlm T t.2.1 t.2.2.1 t.1 ln ms wf ws else ms) (pm h o a b (vlv T t.2.1 t.2.2.1 t.2.2.2 t.1 v wf ws) md) := by
  obtain ⟨lc2, LF2, LS2, LA2⟩ := t
  obtain ⟨i1, ⟨i2, i3⟩, i4, i5, i6⟩ := hI
  obtain ⟨l1, l2, l3, l4, l5, l6, l7, l8, l9⟩ := hl
  obtain ⟨e1, e2⟩ := h2
  have hb := bhd_h (v := v) l7
  show (if o ≤ 25 then vlm T LF2 LS2 lc2 ln ms wf ws else ms) = Ms _ _ _ ∧ (_ → ∀ j, j < 1024 → pm h o a b (vlv T LF2 LS2 LA2 lc2 v wf ws) md j = nI (if j < bhd h o v then Fw (pw h o a b v W) _ _ _ j else 0))
  have hx := fun (j : Nat) => Fw_ext (h := h) (W := W) (W' := pw h o a b v W) (UA := UA) (t := fun i => LA2 (fnd T LF2 LS2 lc2 (UF i) (US i))) uc (fun i hi => (i5 i hi).2.2.1) (fun j hj => pw_lo j hj) j
  cases q : usd o ws with
  | false =>
    simp only [if_neg (show ¬ false = true by decide)]
    have em : (if o ≤ 25 then vlm T LF2 LS2 lc2 ln ms wf ws else ms) = ms := by
      by_cases c : o ≤ 25
      · have c2 : ws = 0 := by
          by_cases c3 : ws = 0
          · exact c3
          · have : usd o ws = true := decide_eq_true ⟨c, by omega⟩
            rw [q] at this; cases this
        rw [if_pos c]; unfold vlm; rw [if_pos c2]
      · rw [if_neg c]
    rw [em]
    refine ⟨e1, fun m0 j hj => ?_⟩
    rw [hx j]
    have hold := e2 m0 j hj
    unfold pm
    by_cases c1 : o < 25
    · have c2 : ws = 0 := by
        by_cases c3 : ws = 0
        · exact c3
        · have : usd o ws = true := decide_eq_true ⟨by omega, by omega⟩
          rw [q] at this; cases this
      have eb : bhd h o v = h + 2 := by unfold bhd; rw [if_neg (by omega), if_neg (by omega), if_neg (by omega), if_neg (by omega)]
      have ep : pw h o a b v W = mu (mu W h (o * 64 + a * 8 + b)) (h + 1) v := if_pos c1
      have ev : vlv T LF2 LS2 LA2 lc2 v wf ws = v := if_pos c2
      rw [if_pos c1, ev, eb, ep]
      by_cases d1 : j = h + 1
      · subst d1; rw [pk_us, if_pos (by omega), if_neg (by omega), mu_s]
      · rw [pk_un d1]
        by_cases d2 : j = h
        · subst d2; rw [pk_us, if_pos (by omega), if_neg (by omega), mu_n _ _ (by omega), mu_s]; congr 1; omega
        · rw [pk_un d2, hold]
          by_cases d3 : j < h
          · rw [if_pos d3, if_pos (by omega), if_pos d3]
          · rw [if_neg d3, if_neg (by omega)]
    · rw [if_neg c1]
      by_cases c4 : o = 25
      · have c2 : ws = 0 := by
          by_cases c3 : ws = 0
          · exact c3
          · have : usd o ws = true := decide_eq_true ⟨by omega, by omega⟩
            rw [q] at this; cases this
        have eb : bhd h o v = h + 1 := by unfold bhd; rw [if_neg (by omega), if_pos c4]
        have ep : pw h o a b v W = mu W h v := by unfold pw; rw [if_neg c1, if_pos c4]
        have ev : vlv T LF2 LS2 LA2 lc2 v wf ws = v := if_pos c2
        rw [if_pos c4, ev, eb, ep]
        by_cases d2 : j = h
        · subst d2; rw [pk_us, if_pos (by omega), if_neg (by omega), mu_s]
        · rw [pk_un d2, hold]
          by_cases d3 : j < h
          · rw [if_pos d3, if_pos (by omega), if_pos d3]
          · rw [if_neg d3, if_neg (by omega)]
      · have ep : pw h o a b v W = zz h (bhd h o v) W := by unfold pw; rw [if_neg c1, if_neg c4]
        rw [if_neg c4, ep, hold]
        by_cases d3 : j < h
        · rw [if_pos d3, if_pos (by omega), if_pos d3]
        · rw [if_neg d3]
          by_cases d4 : j < bhd h o v
          · rw [if_pos d4, if_neg d3]
            unfold zz
            rw [if_pos (by omega)]
          · rw [if_neg d4]
  | true =>
    have q' := of_decide_eq_true q
    have hu := uad_h (h := h) (v := v) q'.1
    simp only [if_true, if_pos q'.1]
    have em0 : Ms (fun i => decide (fnd T LF2 LS2 lc2 (mu UF uc wf i) (mu US uc ws i) < lc2)) (mu UL uc ln) uc = ms := by
      rw [e1]
      refine Ms_cg uc fun i hi => ?_
      rw [mu_n _ _ (by omega), mu_n _ _ (by omega), mu_n _ _ (by omega)]
      exact ⟨rfl, rfl⟩
    have em : Ms (fun i => decide (fnd T LF2 LS2 lc2 (mu UF uc wf i) (mu US uc ws i) < lc2)) (mu UL uc ln) (uc + 1) = vlm T LF2 LS2 lc2 ln ms wf ws := by
      show (if Ms _ _ uc = 0 then (if (fun i => decide (fnd T LF2 LS2 lc2 (mu UF uc wf i) (mu US uc ws i) < lc2)) uc = true then 0 else mu UL uc ln uc) else Ms _ _ uc) = _
      rw [em0]
      simp only [mu_s]
      unfold vlm
      rw [if_neg (show ¬ ws = 0 by omega)]
      by_cases c : fnd T LF2 LS2 lc2 wf ws < lc2
      · simp only [if_pos c, decide_eq_true c, if_true]
        by_cases d : ms = 0
        · rw [if_pos d, d]
        · rw [if_neg d]
      · simp only [if_neg c, decide_eq_false c, if_neg (show ¬ false = true by decide)]
    refine ⟨em.symm, fun m0 j hj => ?_⟩
    have hfd : fnd T LF2 LS2 lc2 wf ws < lc2 ∧ ms = 0 := by
      unfold vlm at m0
      rw [if_neg (show ¬ ws = 0 by omega)] at m0
      by_cases c : fnd T LF2 LS2 lc2 wf ws < lc2
      · rw [if_pos c] at m0; exact ⟨c, m0⟩
      · rw [if_neg c] at m0
        exfalso
        by_cases d : ms = 0
        · rw [if_pos d] at m0; omega
        · rw [if_neg d] at m0; exact d m0
    have ev : vlv T LF2 LS2 LA2 lc2 v wf ws = (LA2 (fnd T LF2 LS2 lc2 wf ws) + v) % 65536 := by
      unfold vlv
      rw [if_neg (show ¬ ws = 0 by omega), if_pos hfd.1]
    have ec : Fw (pw h o a b v W) (mu UA uc (uad h o)) (fun i => LA2 (fnd T LF2 LS2 lc2 (mu UF uc wf i) (mu US uc ws i))) uc = Fw (pw h o a b v W) UA (fun i => LA2 (fnd T LF2 LS2 lc2 (UF i) (US i))) uc := by
      refine Fw_cg uc fun i hi => ?_
      rw [mu_n _ _ (by omega), mu_n _ _ (by omega), mu_n _ _ (by omega)]
      exact ⟨rfl, rfl⟩
    have ew : pw h o a b v W (uad h o) = v := by
      unfold pw uad
      by_cases c1 : o < 25
      · rw [if_pos c1, if_pos c1, mu_s]
      · rw [if_neg c1, if_neg c1, if_pos (by omega), mu_s]
    have ef : Fw (pw h o a b v W) (mu UA uc (uad h o)) (fun i => LA2 (fnd T LF2 LS2 lc2 (mu UF uc wf i) (mu US uc ws i))) (uc + 1) j = mu (Fw (pw h o a b v W) UA (fun i => LA2 (fnd T LF2 LS2 lc2 (UF i) (US i))) uc) (uad h o) ((v + LA2 (fnd T LF2 LS2 lc2 wf ws)) % 65536) j := by
      show mu (Fw (pw h o a b v W) (mu UA uc (uad h o)) _ uc) (mu UA uc (uad h o) uc) ((Fw (pw h o a b v W) (mu UA uc (uad h o)) _ uc (mu UA uc (uad h o) uc) + LA2 (fnd T LF2 LS2 lc2 (mu UF uc wf uc) (mu US uc ws uc))) % 65536) j = _
      rw [ec, mu_s, mu_s, mu_s, hx (uad h o), if_neg (by omega), ew]
    rw [ef, ev, Nat.add_comm v]
    have hold := e2 hfd.2 j hj
    have hxj := hx j
    unfold pm
    by_cases c1 : o < 25
    · have eb : bhd h o v = h + 2 := by unfold bhd; rw [if_neg (by omega), if_neg (by omega), if_neg (by omega), if_neg (by omega)]
      have ep : pw h o a b v W = mu (mu W h (o * 64 + a * 8 + b)) (h + 1) v := if_pos c1
      have eu : uad h o = h + 1 := if_pos c1
      rw [if_pos c1, eb, eu]
      by_cases d1 : j = h + 1
      · subst d1; rw [pk_us, if_pos (by omega), mu_s]
      · rw [pk_un d1, mu_n _ _ d1, hxj, ep]
        by_cases d2 : j = h
        · subst d2; rw [pk_us, if_pos (by omega), if_neg (by omega), mu_n _ _ (by omega), mu_s]; congr 1; omega
        · rw [pk_un d2, hold]
          by_cases d3 : j < h
          · rw [if_pos d3, if_pos (by omega), if_pos d3]
          · rw [if_neg d3, if_neg (by omega)]
    · have c4 : o = 25 := by omega
      have eb : bhd h o v = h + 1 := by unfold bhd; rw [if_neg (by omega), if_pos c4]
      have eu : uad h o = h := if_neg c1
      rw [if_neg c1, if_pos c4, eb, eu]
      by_cases d2 : j = h
      · subst d2; rw [pk_us, if_pos (by omega), mu_s]
      · rw [pk_un d2, mu_n _ _ d2, hxj, hold]
        by_cases d3 : j < h
        · rw [if_pos d3, if_pos (by omega), if_pos d3]
        · rw [if_neg d3, if_neg (by omega)]
end ASH
