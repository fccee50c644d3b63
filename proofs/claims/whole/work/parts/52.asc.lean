/-! A LINE, taken apart: the class's whole line -/
section ASC
variable {T : Nat → Nat} {z : Nat → Int32} {l1 : Nat} {wN : Nat → Int32}
def p_lab (T : Nat → Nat) (E p : Nat) : Option (Nat × Nat × Nat) :=
  if sml (hc T E (sk T E p)) = true then
    (if na T E (sk T E p) - sk T E p ≤ 8 ∧ hc T E (na T E (sk T E p)) = 58 then some (sk T E p, na T E (sk T E p) - sk T E p, na T E (sk T E p) + 1) else none)
  else some (0, 0, sk T E p)
def wnt (o : Nat) : Nat := [0, 5, 5, 5, 7, 7, 3, 3, 3, 3, 3, 5, 4, 5, 1, 5, 4, 4, 4, 1, 1, 1, 1, 7, 7, 4, 8, 8].getD o 0
def p_rg (T : Nat → Nat) (E : Nat) (w : Bool) (p : Nat) : Option (Nat × Nat) := if w = true then p_reg T E p else some (0, p)
def p_vl (T : Nat → Nat) (E o p : Nat) : Option (Nat × Nat × Nat × Nat) := if wnt o < 4 then some (0, 0, 0, p) else p_val T E p (decide (wnt o = 8))
def p_op (T : Nat → Nat) (E o p : Nat) : Option (Nat × Nat × Nat × Nat × Nat) :=
  (p_rg T E (decide (wnt o % 2 = 1)) p).bind fun x => (p_rg T E (decide (wnt o / 2 % 2 = 1)) x.2).bind fun y => (p_vl T E o y.2).bind fun v => if sk T E v.2.2.2 = E then some (x.1, y.1, v.1, v.2.1, v.2.2.1) else none
def p_rest (T : Nat → Nat) (E p : Nat) : Option (Nat × Nat × Nat × Nat × Nat × Nat) :=
  if sk T E p = E then some (28, 0, 0, 0, 0, 0)
  else if p_ord T (sk T E p) (up T E (sk T E p) - sk T E p) = 28 then none
  else (p_op T E (p_ord T (sk T E p) (up T E (sk T E p) - sk T E p)) (up T E (sk T E p))).bind fun x => some (p_ord T (sk T E p) (up T E (sk T E p) - sk T E p), x)
def p_line (T : Nat → Nat) (E p : Nat) : Option (Nat × Nat × Nat × Nat × Nat × Nat × Nat × Nat) := (p_lab T E p).bind fun l => (p_rest T E l.2.2).bind fun r => some (l.1, l.2.1, r)
theorem ord_le {p n : Nat} : p_ord T p n ≤ 28 := by
  have := scn_le (P := fun i => decide (¬ isN T p n i)) 28 0
  unfold p_ord
  omega
theorem q_lab {E p : Nat} (hT : ∀ i, T i < 256) (hE : E ≤ 3000) (hp : p ≤ E) : (p_lab T E p = none ∧ ∃ a b, f_LI_isLabelRead (nI p) (nI E) 0 (nf T) = some (0, a, b)) ∨ (∃ lf ls q, p_lab T E p = some (lf, ls, q) ∧ p ≤ q ∧ q ≤ E ∧ ls ≤ 8 ∧ (∀ j, j < ls → an (T (lf + j)) = true) ∧ lf + ls ≤ E ∧ f_LI_isLabelRead (nI p) (nI E) 0 (nf T) = some (1, nI q, lN (cod T lf ls))) := by
  have hs := sk_le (T := T) hp
  unfold f_LI_isLabelRead p_lab
  rw [q_sk hE hT hp, Option.bind_some, q_here hE (by omega), Option.bind_some, q_smH hT, Option.bind_some]
  cases h3 : sml (hc T E (sk T E p)) with
  | false =>
    rw [if_pos bi_f, if_neg (show ¬ false = true by decide)]
    right
    exact ⟨0, 0, sk T E p, rfl, hs.1, hs.2, by omega, fun j hj => by omega, by omega, rfl⟩
  | true =>
    obtain ⟨k1, k2⟩ := sml_an h3
    have k3 := na_le (T := T) (E := E) (p := sk T E p) hs.2
    rw [if_neg bi_t, if_pos (show true = true from rfl), q_tl hT hE hs.2, Option.bind_some]
    by_cases h4 : na T E (sk T E p) - sk T E p ≤ 8
    · have hl := cod_63 (T := T) (p := sk T E p) h4 (fun j hj => na_an hj)
      have h0 := (cod_lt (T := T) (p := sk T E p) (na T E (sk T E p) - sk T E p) (fun j hj => na_an hj)).2 (by omega)
      rw [if_pos h4]
      dsimp only
      rw [if_neg (show ¬ lg_cmp (lN (cod T (sk T E p) (na T E (sk T E p) - sk T E p))) 0 = (0 : Int32) from fun y => by have := (lg_0 hl).mp y; omega), q_here hE (by omega), Option.bind_some, ic (hr_58 hT)]
      by_cases h5 : hc T E (na T E (sk T E p)) = 58
      · have := hc_p h5 (by omega)
        rw [if_pos h5, if_pos (show na T E (sk T E p) - sk T E p ≤ 8 ∧ hc T E (na T E (sk T E p)) = 58 from ⟨h4, h5⟩), nI_1]
        right
        exact ⟨_, _, _, rfl, by omega, by omega, h4, fun j hj => na_an hj, by omega, rfl⟩
      · rw [if_neg h5, if_neg (show ¬ (na T E (sk T E p) - sk T E p ≤ 8 ∧ hc T E (na T E (sk T E p)) = 58) from fun y => h5 y.2)]
        left
        exact ⟨rfl, _, _, rfl⟩
    · rw [if_neg h4, if_neg (show ¬ (na T E (sk T E p) - sk T E p ≤ 8 ∧ hc T E (na T E (sk T E p)) = 58) from fun y => h4 y.1)]
      left
      exact ⟨rfl, _, _, if_pos (by decide)⟩
theorem w_1 : ∀ o, o < 28 → ((nI (wnt o) &&& 1) = (0 : Int32) ↔ ¬ wnt o % 2 = 1) := by decide +kernel
theorem w_2 : ∀ o, o < 28 → ((nI (wnt o) &&& 2) = (0 : Int32) ↔ ¬ wnt o / 2 % 2 = 1) := by decide +kernel
theorem w_8 : ∀ o, o < 28 → ((nI (wnt o) &&& 8) = (0 : Int32) ↔ wnt o ≠ 8) := by decide +kernel
theorem w_lt : ∀ o, o < 28 → wnt o < 9 := by decide +kernel
theorem n_m1 {v : Nat} (h : v < 2 ^ 31) : ¬ nI v = (-1 : Int32) := by
  intro y
  have := congrArg Int32.toInt y
  rw [nI_toInt h] at this
  have e : (-1 : Int32).toInt = -1 := by decide
  omega
theorem q_105 {E p : Nat} {x1 x2 x3 x4 : Int32} {x5 : Int64} (hT : ∀ i, T i < 256) (hE : E ≤ 3000) (hp : p ≤ E) : b_LI_isOrderRead_105 (nI p) (nI E) x1 x2 x3 x4 x5 (nf T) = some (if sk T E p = E then 1 else 0, nI (sk T E p), x1, x2, x3, x4, x5) := by
  have hs := sk_le (T := T) hp
  unfold b_LI_isOrderRead_105
  rw [q_sk hE hT hp, Option.bind_some, ic (nI_eq (by omega) (by omega))]
  by_cases h : sk T E p = E
  · rw [if_pos h, if_pos h]
  · rw [if_neg h, if_neg h]
/-- from the number on -/
theorem q_72 {E o p a b : Nat} (hT : ∀ i, T i < 256) (hE : E ≤ 3000) (hp : p ≤ E) (ho : o < 28) (ha : a < 8) (hb : b < 8) : ((p_vl T E o p).bind (fun v => if sk T E v.2.2.2 = E then some (a, b, v.1, v.2.1, v.2.2.1) else none) = none ∧ ∃ y1 y2 y3 y4 y5 y6, b_LI_isOrderRead_72 (nI p) (nI E) (nI o) (nI a) (nI b) 0 0 (nf T) (nI (wnt o)) = some (0, y1, y2, y3, y4, y5, y6)) ∨ (∃ v wf ws y, (p_vl T E o p).bind (fun v => if sk T E v.2.2.2 = E then some (a, b, v.1, v.2.1, v.2.2.1) else none) = some (a, b, v, wf, ws) ∧ v < 65536 ∧ ws ≤ 8 ∧ (∀ j, j < ws → an (T (wf + j)) = true) ∧ wf + ws ≤ E ∧ b_LI_isOrderRead_72 (nI p) (nI E) (nI o) (nI a) (nI b) 0 0 (nf T) (nI (wnt o)) = some (1, y, nI o, nI a, nI b, nI v, lN (cod T wf ws))) := by
  have hw := w_lt o ho
  unfold b_LI_isOrderRead_72 p_vl
  rw [if_neg (n_m1 (by omega)), if_neg (n_m1 (by omega)), ic (nIl_4 (by omega))]
  by_cases h4 : wnt o < 4
  · rw [if_pos h4, if_pos h4, q_105 hT hE hp]
    by_cases h : sk T E p = E
    · right
      refine ⟨0, 0, 0, nI (sk T E p), ?_, by omega, by omega, fun j hj => by omega, by omega, ?_⟩
      · exact if_pos h
      · rw [if_pos h]; rfl
    · left
      refine ⟨if_neg h, ?_⟩
      rw [if_neg h]
      exact ⟨_, _, _, _, _, _, rfl⟩
  · rw [if_neg h4, if_neg h4]
    rcases q_val (T := T) (w := wnt o) hT hE hp (fun x hx => by rw [hx]; exact w_8 o ho) with ⟨a1, y1, y2, y3, a2⟩ | ⟨v, wf, ws, q, a1, a2, a3, a4, a5, a6, a7, a8⟩
    · left
      rw [a1, a2, Option.bind_some]
      exact ⟨rfl, _, _, _, _, _, _, if_pos rfl⟩
    · rw [a1, a8, Option.bind_some, Option.bind_some]
      dsimp only
      rw [if_neg (show ¬ (1 : Int32) = 0 by decide), q_105 hT hE a4]
      by_cases h : sk T E q = E
      · right
        refine ⟨v, wf, ws, nI (sk T E q), if_pos h, a2, a5, a6, a7, ?_⟩
        rw [if_pos h]
      · left
        refine ⟨if_neg h, ?_⟩
        rw [if_neg h]
        exact ⟨_, _, _, _, _, _, rfl⟩
theorem q_72f {E o p : Nat} {a b : Int32} (h : a = -1 ∨ b = -1) : ∃ y1 y2 y3 y4 y5 y6, b_LI_isOrderRead_72 (nI p) (nI E) (nI o) a b 0 0 (nf T) (nI (wnt o)) = some (0, y1, y2, y3, y4, y5, y6) := by
  unfold b_LI_isOrderRead_72
  by_cases h1 : a = -1
  · exact ⟨_, _, _, _, _, _, if_pos h1⟩
  · exact ⟨_, _, _, _, _, _, by rw [if_neg h1, if_pos (h.resolve_left h1)]⟩
theorem q_58 {E o p a : Nat} (hT : ∀ i, T i < 256) (hE : E ≤ 3000) (hp : p ≤ E) (ho : o < 28) (ha : a < 8) : ((p_rg T E (decide (wnt o / 2 % 2 = 1)) p).bind (fun y => (p_vl T E o y.2).bind fun v => if sk T E v.2.2.2 = E then some (a, y.1, v.1, v.2.1, v.2.2.1) else none) = none ∧ ∃ y1 y2 y3 y4 y5 y6, b_LI_isOrderRead_58 (nI p) (nI E) (nI o) (nI a) 0 0 0 (nf T) (nI (wnt o)) = some (0, y1, y2, y3, y4, y5, y6)) ∨ (∃ b v wf ws y, (p_rg T E (decide (wnt o / 2 % 2 = 1)) p).bind (fun y => (p_vl T E o y.2).bind fun v => if sk T E v.2.2.2 = E then some (a, y.1, v.1, v.2.1, v.2.2.1) else none) = some (a, b, v, wf, ws) ∧ b < 8 ∧ v < 65536 ∧ ws ≤ 8 ∧ (∀ j, j < ws → an (T (wf + j)) = true) ∧ wf + ws ≤ E ∧ b_LI_isOrderRead_58 (nI p) (nI E) (nI o) (nI a) 0 0 0 (nf T) (nI (wnt o)) = some (1, y, nI o, nI a, nI b, nI v, lN (cod T wf ws))) := by
  have n0 : nI 0 = (0 : Int32) := rfl
  unfold b_LI_isOrderRead_58 p_rg
  rw [ic (w_2 o ho)]
  by_cases h : wnt o / 2 % 2 = 1
  · rw [if_neg (show ¬ ¬ wnt o / 2 % 2 = 1 from fun q => q h), decide_eq_true h, if_pos (show true = true from rfl)]
    rcases q_reg_ (T := T) hT hE hp with ⟨a1, q, a2, a3, a4⟩ | ⟨v, q, a1, a2, a3, a4, a5⟩
    · left
      rw [a1, a4]
      exact ⟨rfl, q_72f (Or.inr rfl)⟩
    · rw [a1, a5, Option.bind_some, Option.bind_some]
      rcases q_72 (T := T) (a := a) (b := v) hT hE a4 ho ha a2 with k | ⟨v', wf, ws, y, k1, k2, k3, k4, k5, k6⟩
      · exact Or.inl k
      · exact Or.inr ⟨v, v', wf, ws, y, k1, a2, k2, k3, k4, k5, k6⟩
  · rw [if_pos (show ¬ wnt o / 2 % 2 = 1 from h), decide_eq_false h, if_neg (show ¬ false = true by decide), Option.bind_some]
    rcases q_72 (T := T) (a := a) (b := 0) hT hE hp ho ha (by omega) with k | ⟨v', wf, ws, y, k1, k2, k3, k4, k5, k6⟩
    · rw [n0] at k; exact Or.inl k
    · rw [n0] at k6
      exact Or.inr ⟨0, v', wf, ws, y, k1, by omega, k2, k3, k4, k5, by rw [n0]; exact k6⟩
theorem q_58f {E o p : Nat} (hT : ∀ i, T i < 256) (hE : E ≤ 3000) (hp : p ≤ E) (ho : o < 28) : ∃ y1 y2 y3 y4 y5 y6, b_LI_isOrderRead_58 (nI p) (nI E) (nI o) (-1) 0 0 0 (nf T) (nI (wnt o)) = some (0, y1, y2, y3, y4, y5, y6) := by
  unfold b_LI_isOrderRead_58
  rw [ic (w_2 o ho)]
  by_cases h : wnt o / 2 % 2 = 1
  · rw [if_neg (fun q => q h)]
    rcases q_reg_ (T := T) hT hE hp with ⟨a1, q, a2, a3, a4⟩ | ⟨v, q, a1, a2, a3, a4, a5⟩
    · rw [a4]; exact q_72f (Or.inl rfl)
    · rw [a5]; exact q_72f (Or.inl rfl)
  · rw [if_pos h]; exact q_72f (Or.inl rfl)
theorem q_rest {E p : Nat} (hT : ∀ i, T i < 256) (hW : ∀ o, o < 28 → wN o = nI (wnt o)) (hE : E ≤ 3000) (hp : p ≤ E) : (p_rest T E p = none ∧ ∃ y1 y2 y3 y4 y5 y6, f_LI_isOrderRead wN (nI p) (nI E) (-1) 0 0 0 0 (nf T) = some (0, y1, y2, y3, y4, y5, y6)) ∨ (∃ o a b v wf ws y, p_rest T E p = some (o, a, b, v, wf, ws) ∧ o ≤ 28 ∧ a < 8 ∧ b < 8 ∧ v < 65536 ∧ ws ≤ 8 ∧ (∀ j, j < ws → an (T (wf + j)) = true) ∧ wf + ws ≤ E ∧ f_LI_isOrderRead wN (nI p) (nI E) (-1) 0 0 0 0 (nf T) = some (1, y, oI o, nI a, nI b, nI v, lN (cod T wf ws))) := by
  have hs := sk_le (T := T) hp
  have hu := up_le (T := T) hs.2
  unfold f_LI_isOrderRead p_rest
  rw [q_sk hE hT hp, Option.bind_some, ic (nI_eq (by omega) (by omega))]
  by_cases h1 : sk T E p = E
  · rw [if_pos h1, if_pos h1]
    right
    exact ⟨28, 0, 0, 0, 0, 0, _, rfl, by omega, by omega, by omega, by omega, by omega, fun j hj => by omega, by omega, rfl⟩
  · rw [if_neg h1, if_neg h1, q_order hT hE hs.2, Option.bind_some]
    have hol := ord_le (T := T) (p := sk T E p) (n := up T E (sk T E p) - sk T E p)
    generalize p_ord T (sk T E p) (up T E (sk T E p) - sk T E p) = o at *
    by_cases h2 : o = 28
    · rw [if_pos h2]
      left
      refine ⟨rfl, _, _, _, _, _, _, if_pos ?_⟩
      unfold oI; rw [if_pos h2]
    · have ho : o < 28 := by omega
      have eo : oI o = nI o := if_neg h2
      rw [if_neg h2, eo]
      dsimp only
      rw [if_neg (n_m1 (by omega)), if_pos ((ck_nI (by omega)).mpr ho), nI_clamp (by omega), hW o ho, ic (w_1 o ho)]
      unfold p_op
      have n0 : nI 0 = (0 : Int32) := rfl
      have FIN : ∀ q a, q ≤ E → a < 8 → ((((p_rg T E (decide (wnt o / 2 % 2 = 1)) q).bind fun y => (p_vl T E o y.2).bind fun v => if sk T E v.2.2.2 = E then some (a, y.1, v.1, v.2.1, v.2.2.1) else none).bind fun x => some (o, x)) = none ∧ ∃ y1 y2 y3 y4 y5 y6, b_LI_isOrderRead_58 (nI q) (nI E) (nI o) (nI a) 0 0 0 (nf T) (nI (wnt o)) = some (0, y1, y2, y3, y4, y5, y6)) ∨ (∃ o' a' b v wf ws y, (((p_rg T E (decide (wnt o / 2 % 2 = 1)) q).bind fun y => (p_vl T E o y.2).bind fun v => if sk T E v.2.2.2 = E then some (a, y.1, v.1, v.2.1, v.2.2.1) else none).bind fun x => some (o, x)) = some (o', a', b, v, wf, ws) ∧ o' ≤ 28 ∧ a' < 8 ∧ b < 8 ∧ v < 65536 ∧ ws ≤ 8 ∧ (∀ j, j < ws → an (T (wf + j)) = true) ∧ wf + ws ≤ E ∧ b_LI_isOrderRead_58 (nI q) (nI E) (nI o) (nI a) 0 0 0 (nf T) (nI (wnt o)) = some (1, y, oI o', nI a', nI b, nI v, lN (cod T wf ws))) := by
        intro q a hq ha
        rcases q_58 (T := T) (a := a) hT hE hq ho ha with ⟨k1, k2⟩ | ⟨b, v, wf, ws, y, k1, k2, k3, k4, k5, k6, k7⟩
        · left
          rw [k1]
          exact ⟨rfl, k2⟩
        · right
          rw [k1]
          exact ⟨o, a, b, v, wf, ws, y, rfl, by omega, ha, k2, k3, k4, k5, k6, by rw [eo]; exact k7⟩
      by_cases h3 : wnt o % 2 = 1
      · rw [if_neg (fun q => q h3), decide_eq_true h3]
        have ep : p_rg T E true (up T E (sk T E p)) = p_reg T E (up T E (sk T E p)) := if_pos rfl
        rw [ep]
        rcases q_reg_ (T := T) hT hE hu.2 with ⟨a1, q, a2, a3, a4⟩ | ⟨v, q, a1, a2, a3, a4, a5⟩
        · left
          rw [a1, a4]
          exact ⟨rfl, q_58f hT hE a3 ho⟩
        · rw [a1, a5, Option.bind_some, Option.bind_some]
          exact FIN q v a4 a2
      · rw [if_pos h3, decide_eq_false h3]
        have ep : p_rg T E false (up T E (sk T E p)) = some (0, up T E (sk T E p)) := if_neg (by decide)
        rw [ep, Option.bind_some]
        have := FIN (up T E (sk T E p)) 0 hu.2 (by omega)
        rw [n0] at this
        exact this
/-- bytes and remark -/
def gby (T : Nat → Nat) (L p : Nat) : Prop := ∀ i, p ≤ i → i < L → 32 ≤ T i ∧ T i ≤ 126
theorem q_gb {L : Nat} (hT : ∀ i, T i < 256) (hL : L ≤ 3000) : ∀ (r p u : Nat), p + r = L → r < u → (gby T L p ∧ b_LI_hasGoodBytes_5 u (nI L) (nf T) (nI p) = some 1) ∨ (¬ gby T L p ∧ b_LI_hasGoodBytes_5 u (nI L) (nf T) (nI p) = some 0) := by
  intro r
  induction r with
  | zero =>
    intro p u h1 h2
    obtain ⟨u, rfl⟩ : ∃ m, u = m + 1 := ⟨u - 1, by omega⟩
    left
    refine ⟨fun i h3 h4 => by omega, ?_⟩
    rw [b_LI_hasGoodBytes_5, if_pos ((nI_leI (by omega) (by omega)).mpr (by omega))]
  | succ r ih =>
    intro p u h1 h2
    obtain ⟨u, rfl⟩ : ∃ m, u = m + 1 := ⟨u - 1, by omega⟩
    have hlt := hT p
    have E1 : b_LI_hasGoodBytes_5 (u + 1) (nI L) (nf T) (nI p) = if T p < 32 then some 0 else if T p ≤ 126 then b_LI_hasGoodBytes_5 u (nI L) (nf T) (nI (p + 1)) else some 0 := by
      rw [b_LI_hasGoodBytes_5, if_neg (fun q => by have := (nI_leI (by omega) (by omega)).mp q; omega)]
      simp only [if_pos ((ck_nI (n := p) (N := 3000) (by omega)).mpr (by omega)), nI_clamp (show p < 2 ^ 31 by omega), nf_at, nI_1]
      rw [ic (nIl_32 (by omega)), ic (nIm_126 (by omega))]
    rw [E1]
    by_cases h3 : T p < 32
    · right
      exact ⟨fun q => by have := q p (by omega) (by omega); omega, if_pos h3⟩
    · by_cases h4 : T p ≤ 126
      · rw [if_neg h3, if_pos h4]
        rcases ih (p + 1) u (by omega) (by omega) with ⟨k1, k2⟩ | ⟨k1, k2⟩
        · left
          refine ⟨fun i h5 h6 => ?_, k2⟩
          by_cases e : i = p
          · subst e; omega
          · exact k1 i (by omega) h6
        · right
          exact ⟨fun q => k1 fun i h5 h6 => q i (by omega) h6, k2⟩
      · right
        exact ⟨fun q => by have := q p (by omega) (by omega); omega, by rw [if_neg h3, if_neg h4]⟩
def rmk (T : Nat → Nat) (L p : Nat) : Nat := scn (fun q => decide (¬ T q = 59)) (L - p) p
theorem q_rm {L : Nat} (hT : ∀ i, T i < 256) (hL : L ≤ 3000) : ∀ (r p u : Nat), p + r = L → r < u → b_LI_dropRemark_5 u (nI L) (nf T) (nI p) = some (nI (scn (fun q => decide (¬ T q = 59)) r p)) := by
  intro r
  induction r with
  | zero =>
    intro p u h1 h2
    obtain ⟨u, rfl⟩ : ∃ m, u = m + 1 := ⟨u - 1, by omega⟩
    rw [b_LI_dropRemark_5, if_pos ((nI_leI (by omega) (by omega)).mpr (by omega)), show L = p by omega]
    rfl
  | succ r ih =>
    intro p u h1 h2
    obtain ⟨u, rfl⟩ : ∃ m, u = m + 1 := ⟨u - 1, by omega⟩
    have hlt := hT p
    rw [b_LI_dropRemark_5, if_neg (fun q => by have := (nI_leI (by omega) (by omega)).mp q; omega)]
    simp only [if_pos ((ck_nI (n := p) (N := 3000) (by omega)).mpr (by omega)), nI_clamp (show p < 2 ^ 31 by omega), nf_at, nI_1]
    rw [ic (nIe_59 (by omega))]
    show _ = some (nI (if decide (¬ T p = 59) = true then _ else _))
    by_cases h : T p = 59
    · rw [if_pos h, if_neg (by simpa using h)]
    · rw [if_neg h, if_pos (decide_eq_true h)]
      exact ih (p + 1) u (by omega) (by omega)
def lnd (T : Nat → Nat) (e p : Nat) : Nat := scn (fun q => decide (¬ T q = 10)) (e - p) p
theorem q_le {e : Nat} (hT : ∀ i, T i < 256) (he : e ≤ 3000) : ∀ (r p u : Nat), p + r = e → r < u → b_AS_lineEnd_2 u (nf T) (nI e) (nI p) = some (nI (scn (fun q => decide (¬ T q = 10)) r p)) := by
  intro r
  induction r with
  | zero =>
    intro p u h1 h2
    obtain ⟨u, rfl⟩ : ∃ m, u = m + 1 := ⟨u - 1, by omega⟩
    rw [b_AS_lineEnd_2, if_pos ((nI_leI (by omega) (by omega)).mpr (by omega))]
    rfl
  | succ r ih =>
    intro p u h1 h2
    obtain ⟨u, rfl⟩ : ∃ m, u = m + 1 := ⟨u - 1, by omega⟩
    have hlt := hT p
    rw [b_AS_lineEnd_2, if_neg (fun q => by have := (nI_leI (by omega) (by omega)).mp q; omega)]
    simp only [if_pos ((ck_nI (n := p) (N := 3000) (by omega)).mpr (by omega)), nI_clamp (show p < 2 ^ 31 by omega), nf_at, nI_1]
    rw [ic (nIe_10 (by omega))]
    show _ = some (nI (if decide (¬ T p = 10) = true then _ else _))
    by_cases h : T p = 10
    · rw [if_pos h, if_neg (by simpa using h)]
    · rw [if_neg h, if_pos (decide_eq_true h)]
      exact ih (p + 1) u (by omega) (by omega)
theorem q_lend {e p : Nat} (hT : ∀ i, T i < 256) (he : e ≤ 3000) (hp : p ≤ e) : f_AS_lineEnd (nf T) (nI p) (nI e) = some (nI (lnd T e p)) := q_le hT he (e - p) p 65536 (by omega) (by omega)
theorem lnd_le {e p : Nat} (hp : p ≤ e) : p ≤ lnd T e p ∧ lnd T e p ≤ e := by
  have h1 := scn_ge (P := fun q => decide (¬ T q = 10)) (e - p) p
  have h2 := scn_le (P := fun q => decide (¬ T q = 10)) (e - p) p
  unfold lnd
  omega
theorem rmk_le {L p : Nat} (hp : p ≤ L) : p ≤ rmk T L p ∧ rmk T L p ≤ L := by
  have h1 := scn_ge (P := fun q => decide (¬ T q = 59)) (L - p) p
  have h2 := scn_le (P := fun q => decide (¬ T q = 59)) (L - p) p
  unfold rmk
  omega
/-- the line's content -/
def lin (T : Nat → Nat) (e p : Nat) : Nat := rmk T (lnd T e p) p
theorem lin_ok {e p : Nat} (hp : p ≤ e) : lnE T e (lin T e p) ∧ p ≤ lin T e p ∧ lin T e p ≤ lnd T e p := by
  have h1 := lnd_le (T := T) hp
  have h2 := rmk_le (T := T) h1.1
  refine ⟨⟨by unfold lin; omega, ?_⟩, h2.1, h2.2⟩
  by_cases q : lin T e p < lnd T e p
  · have := scn_out (P := fun q => decide (¬ T q = 59)) (k := lnd T e p - p) (p := p) (by unfold lin rmk at q; omega)
    right; right
    refine Classical.byContradiction fun y => ?_
    have h2 : decide (¬ T (lin T e p) = 59) = false := this
    rw [decide_eq_true y] at h2
    cases h2
  · have e1 : lin T e p = lnd T e p := by have : lin T e p ≤ lnd T e p := h2.2; omega
    rw [e1]
    by_cases r : lnd T e p = e
    · exact Or.inl r
    · have := scn_out (P := fun q => decide (¬ T q = 10)) (k := e - p) (p := p) (by have := h1.2; unfold lnd at r this; omega)
      right; left
      refine Classical.byContradiction fun y => ?_
      have h2 : decide (¬ T (lnd T e p) = 10) = false := this
      rw [decide_eq_true y] at h2
      cases h2
/-- THE CLASS'S LINE -/
theorem q_line {e p : Nat} (hT : ∀ i, T i < 256) (hW : ∀ o, o < 28 → wN o = nI (wnt o)) (he : e ≤ 3000) (hp : p ≤ e) : ((¬ gby T (lnd T e p) p ∨ p_line T (lin T e p) p = none) ∧ ∃ y1 y2 y3 y4 y5 y6 y7 y8, f_LI_isReadFrom l1 wN (nf T) (nI p) (nI (lnd T e p)) = some (0, l1, y1, y2, y3, y4, y5, y6, y7, y8)) ∨ (gby T (lnd T e p) p ∧ ∃ lf ls o a b v wf ws y1 y2, p_line T (lin T e p) p = some (lf, ls, o, a, b, v, wf, ws) ∧ ls ≤ 8 ∧ (∀ j, j < ls → an (T (lf + j)) = true) ∧ lf + ls ≤ e ∧ o ≤ 28 ∧ a < 8 ∧ b < 8 ∧ v < 65536 ∧ ws ≤ 8 ∧ (∀ j, j < ws → an (T (wf + j)) = true) ∧ wf + ws ≤ e ∧ f_LI_isReadFrom l1 wN (nf T) (nI p) (nI (lnd T e p)) = some (1, l1, y1, y2, lN (cod T lf ls), oI o, nI a, nI b, nI v, lN (cod T wf ws))) := by
  have hl := lnd_le (T := T) hp
  obtain ⟨hk, hk1, hk2⟩ := lin_ok (T := T) hp
  have hke := hk.1
  have l0 : lN 0 = (0 : Int64) := rfl
  unfold f_LI_isReadFrom
  rcases q_gb (T := T) (L := lnd T e p) hT (by omega) (lnd T e p - p) p 65536 (by omega) (by omega) with ⟨g1, g2⟩ | ⟨g1, g2⟩
  · have g2' : f_LI_hasGoodBytes (nI p) (nI (lnd T e p)) (nf T) = some 1 := g2
    have r1 : f_LI_dropRemark (nI p) (nI (lnd T e p)) (nf T) = some (nI (lin T e p)) := q_rm (T := T) (L := lnd T e p) hT (by omega) (lnd T e p - p) p 65536 (by omega) (by omega)
    rw [g2', Option.bind_some, if_neg (show ¬ (1 : Int32) = 0 by decide), r1, Option.bind_some]
    unfold p_line
    rcases q_lab (T := T) (E := lin T e p) (p := p) hT (by omega) hk1 with ⟨a1, y1, y2, a2⟩ | ⟨lf, ls, q, a1, a2, a3, a4, a5, a6, a7⟩
    · left
      rw [a1, a2, Option.bind_some, Option.bind_none]
      exact ⟨Or.inr rfl, _, _, _, _, _, _, _, _, if_pos rfl⟩
    · rw [a1, a7, Option.bind_some, Option.bind_some]
      dsimp only
      rw [if_neg (show ¬ (1 : Int32) = 0 by decide)]
      rcases q_rest (T := T) (E := lin T e p) (p := q) hT hW (by omega) a3 with ⟨b1, y1, y2, y3, y4, y5, y6, b2⟩ | ⟨o, a, b, v, wf, ws, y, b1, b2, b3, b4, b5, b6, b7, b8, b9⟩
      · left
        rw [b1, b2, Option.bind_some, Option.bind_none]
        exact ⟨Or.inr rfl, _, _, _, _, _, _, _, _, if_pos rfl⟩
      · right
        rw [b1, b9, Option.bind_some, Option.bind_some]
        exact ⟨g1, lf, ls, o, a, b, v, wf, ws, y, nI (lin T e p), rfl, a4, a5, by omega, b2, b3, b4, b5, b6, b7, by omega, if_neg (show ¬ (1 : Int32) = 0 by decide)⟩
  · have g2' : f_LI_hasGoodBytes (nI p) (nI (lnd T e p)) (nf T) = some 0 := g2
    left
    rw [g2', Option.bind_some, if_pos rfl]
    exact ⟨Or.inl g1, _, _, _, _, _, _, _, _, rfl⟩
end ASC
