/-! A LINE, taken apart: the class -/
section ASB
theorem hr_32 {T : Nat → Nat} {E p : Nat} (hT : ∀ i, T i < 256) : hr T E p = (32 : Int32) ↔ hc T E p = 32 := hr_l (c := 32) hT (by omega) (by omega) rfl
theorem hr_114 {T : Nat → Nat} {E p : Nat} (hT : ∀ i, T i < 256) : hr T E p = (114 : Int32) ↔ hc T E p = 114 := hr_l (c := 114) hT (by omega) (by omega) rfl
theorem hr_43 {T : Nat → Nat} {E p : Nat} (hT : ∀ i, T i < 256) : hr T E p = (43 : Int32) ↔ hc T E p = 43 := hr_l (c := 43) hT (by omega) (by omega) rfl
theorem hr_58 {T : Nat → Nat} {E p : Nat} (hT : ∀ i, T i < 256) : hr T E p = (58 : Int32) ↔ hc T E p = 58 := hr_l (c := 58) hT (by omega) (by omega) rfl
variable {T : Nat → Nat} {z : Nat → Int32} {l1 : Nat} {wN : Nat → Int32}
def an (c : Nat) : Bool := sml c || dgt c
def na (T : Nat → Nat) (E p : Nat) : Nat := scn (fun q => an (T q)) (E - p) p
def dg (c : Nat) : Nat := if sml c = true then c - 97 + 1 else c - 48 + 27
def cod (T : Nat → Nat) (p : Nat) : Nat → Nat
  | 0 => 0
  | n + 1 => cod T p n * 37 + dg (T (p + n))
theorem na_le {E p : Nat} (hp : p ≤ E) : p ≤ na T E p ∧ na T E p ≤ E := by
  have h1 := scn_ge (P := fun q => an (T q)) (E - p) p
  have h2 := scn_le (P := fun q => an (T q)) (E - p) p
  unfold na
  omega
theorem dg_r {c : Nat} (h : an c = true) : 1 ≤ dg c ∧ dg c ≤ 36 := by
  unfold dg
  by_cases q : sml c = true
  · rw [if_pos q]; have := of_decide_eq_true q; omega
  · rw [if_neg q]
    unfold an at h
    have q2 : sml c = false := by simpa using q
    rw [q2] at h
    have := of_decide_eq_true (show dgt c = true by simpa using h)
    omega
theorem cod_lt {p : Nat} : ∀ (n : Nat), (∀ j, j < n → an (T (p + j)) = true) → cod T p n < 37 ^ n ∧ (0 < n → 0 < cod T p n) := by
  intro n
  induction n with
  | zero => intro h; exact ⟨by show 0 < 37 ^ 0; decide, fun q => by omega⟩
  | succ n ih =>
    intro h
    have h1 := ih (fun j hj => h j (by omega))
    have h2 := dg_r (h n (by omega))
    show cod T p n * 37 + dg (T (p + n)) < 37 ^ n * 37 ∧ (_ → 0 < cod T p n * 37 + dg (T (p + n)))
    omega
theorem cod_63 {p n : Nat} (hn : n ≤ 8) (h : ∀ j, j < n → an (T (p + j)) = true) : cod T p n < 2 ^ 63 := by
  have h1 := (cod_lt (T := T) (p := p) n h).1
  have h2 : 37 ^ n ≤ 37 ^ 8 := Nat.pow_le_pow_right (by decide) hn
  have h3 : 37 ^ 8 < 2 ^ 63 := by decide
  omega
/-- labels are the same if their numbers are -/
theorem cod_inj {p q : Nat} : ∀ (n m : Nat), (∀ j, j < n → an (T (p + j)) = true) → (∀ j, j < m → an (T (q + j)) = true) → (cod T p n = cod T q m ↔ n = m ∧ ∀ j, j < n → T (p + j) = T (q + j)) := by
  have D : ∀ c d, an c = true → an d = true → dg c = dg d → c = d := by
    intro c d hc hd h
    unfold dg at h
    unfold an at hc hd
    by_cases q1 : sml c = true
    · have a1 := of_decide_eq_true q1
      rw [if_pos q1] at h
      by_cases q2 : sml d = true
      · have a2 := of_decide_eq_true q2
        rw [if_pos q2] at h
        omega
      · rw [if_neg q2] at h
        have q3 : sml d = false := by simpa using q2
        rw [q3] at hd
        have := of_decide_eq_true (show dgt d = true by simpa using hd)
        omega
    · rw [if_neg q1] at h
      have q4 : sml c = false := by simpa using q1
      rw [q4] at hc
      have := of_decide_eq_true (show dgt c = true by simpa using hc)
      by_cases q2 : sml d = true
      · have a2 := of_decide_eq_true q2
        rw [if_pos q2] at h
        omega
      · rw [if_neg q2] at h
        have q3 : sml d = false := by simpa using q2
        rw [q3] at hd
        have := of_decide_eq_true (show dgt d = true by simpa using hd)
        omega
  intro n
  induction n with
  | zero =>
    intro m h1 h2
    cases m with
    | zero => exact ⟨fun _ => ⟨rfl, fun j hj => by omega⟩, fun _ => rfl⟩
    | succ m =>
      have := (cod_lt (T := T) (p := q) (m + 1) h2).2 (by omega)
      constructor
      · intro h
        have h' : 0 = cod T q (m + 1) := h
        omega
      · intro h; omega
  | succ n ih =>
    intro m h1 h2
    cases m with
    | zero =>
      have := (cod_lt (T := T) (p := p) (n + 1) h1).2 (by omega)
      constructor
      · intro h
        have h' : cod T p (n + 1) = 0 := h
        omega
      · intro h; omega
    | succ m =>
      have k := ih m (fun j hj => h1 j (by omega)) (fun j hj => h2 j (by omega))
      have e1 := dg_r (h1 n (by omega))
      have e2 := dg_r (h2 m (by omega))
      show cod T p n * 37 + dg (T (p + n)) = cod T q m * 37 + dg (T (q + m)) ↔ _
      constructor
      · intro h
        have a1 : cod T p n = cod T q m := by omega
        have a2 : dg (T (p + n)) = dg (T (q + m)) := by omega
        obtain ⟨rfl, a4⟩ := k.mp a1
        refine ⟨rfl, fun j hj => ?_⟩
        by_cases e : j = n
        · subst e; exact D _ _ (h1 j (by omega)) (h2 j (by omega)) a2
        · exact a4 j (by omega)
      · intro h
        have a0 : n = m := by omega
        subst a0
        rw [k.mpr ⟨rfl, fun j hj => h.2 j (by omega)⟩, h.2 n (by omega)]
theorem q_tll {E p : Nat} (hT : ∀ i, T i < 256) (hE : E ≤ 3000) : ∀ (r n u : Nat), p + n + r = E → r < u → b_LI_takeLabel_4 u (nI (p + n)) (nI E) (nf T) (lN (cod T p n)) (nI n) = some (if scn (fun q => an (T q)) r (p + n) - p ≤ 8 then lN (cod T p (scn (fun q => an (T q)) r (p + n) - p)) else 0, nI (scn (fun q => an (T q)) r (p + n))) := by
  have F : ∀ n, n ≤ 3000 → (if nI n ≤ (8 : Int32) then some (lN (cod T p n), nI (p + n)) else some ((0 : Int64), nI (p + n))) = some (if p + n - p ≤ 8 then lN (cod T p (p + n - p)) else 0, nI (p + n)) := by
    intro n hn
    rw [ic (nIm_8 (by omega)), Nat.add_sub_cancel_left]
    by_cases h : n ≤ 8
    · rw [if_pos h, if_pos h]
    · rw [if_neg h, if_neg h]
  intro r
  induction r with
  | zero =>
    intro n u h1 h2
    obtain ⟨u, rfl⟩ : ∃ m, u = m + 1 := ⟨u - 1, by omega⟩
    rw [b_LI_takeLabel_4, if_pos ((nI_leI (by omega) (by omega)).mpr (by omega))]
    exact F n (by omega)
  | succ r ih =>
    intro n u h1 h2
    obtain ⟨u, rfl⟩ : ∃ m, u = m + 1 := ⟨u - 1, by omega⟩
    have hlt := hT (p + n)
    have hi := ih (n + 1) u (by omega) (by omega)
    rw [b_LI_takeLabel_4, if_neg (fun q => by have := (nI_leI (by omega) (by omega)).mp q; omega)]
    simp only [if_pos ((ck_nI (n := p + n) (N := 3000) (by omega)).mpr (by omega)), nI_clamp (show p + n < 2 ^ 31 by omega), nf_at, q_sm hlt, q_dg hlt, Option.bind_some, nI_1]
    show _ = some (if (if an (T (p + n)) = true then _ else _) - p ≤ 8 then lN (cod T p ((if an (T (p + n)) = true then _ else _) - p)) else 0, nI (if an (T (p + n)) = true then _ else _))
    cases hs : sml (T (p + n)) with
    | true =>
      have ha : an (T (p + n)) = true := by unfold an; rw [hs]; rfl
      have ed : (nI (T (p + n)) - 97 + 1).toInt64 = lN (dg (T (p + n))) := by
        have := of_decide_eq_true hs
        have e97 : nI 97 = (97 : Int32) := rfl
        rw [← e97, pk_sub (by omega), nI_1, nI_l (by omega)]
        unfold dg
        rw [if_pos hs]
      have e37 : lN (cod T p n) * 37 + lN (dg (T (p + n))) = lN (cod T p (n + 1)) := by
        have e : lN 37 = (37 : Int64) := rfl
        rw [← e, lN_mul, lN_add]
        rfl
      rw [if_neg bi_t, if_neg bi_t, if_pos ha, ed, e37]
      exact hi
    | false =>
      rw [if_pos bi_f]
      cases hd : dgt (T (p + n)) with
      | true =>
        have ha : an (T (p + n)) = true := by unfold an; rw [hs, hd]; rfl
        have ed : (nI (T (p + n)) - 48 + 27).toInt64 = lN (dg (T (p + n))) := by
          have := of_decide_eq_true hd
          have e48 : nI 48 = (48 : Int32) := rfl
          have e27 : nI 27 = (27 : Int32) := rfl
          rw [← e48, ← e27, pk_sub (by omega), nI_add, nI_l (by omega)]
          unfold dg
          rw [if_neg (by rw [hs]; decide)]
        have e37 : lN (cod T p n) * 37 + lN (dg (T (p + n))) = lN (cod T p (n + 1)) := by
          have e : lN 37 = (37 : Int64) := rfl
          rw [← e, lN_mul, lN_add]
          rfl
        rw [if_neg bi_t, if_pos bi_f, if_pos ha, ed, e37]
        exact hi
      | false =>
        have ha : an (T (p + n)) = false := by unfold an; rw [hs, hd]; rfl
        rw [if_pos bi_f, ha, if_neg (show ¬ false = true by decide)]
        exact F n (by omega)
theorem q_tl {E p : Nat} (hT : ∀ i, T i < 256) (hE : E ≤ 3000) (hp : p ≤ E) : f_LI_takeLabel (nI p) (nI E) (nf T) = some (if na T E p - p ≤ 8 then lN (cod T p (na T E p - p)) else 0, nI (na T E p)) := by
  have h := q_tll (T := T) (p := p) hT hE (E - p) 0 65536 (by omega) (by omega)
  rw [Nat.add_zero] at h
  exact h
theorem lg_0 {a : Nat} (h : a < 2 ^ 63) : lg_cmp (lN a) 0 = (0 : Int32) ↔ a = 0 := by
  have e0 : lN 0 = (0 : Int64) := rfl
  have h1 := pk_lEQ (a := a) (b := 0) h (by decide)
  have h2 := pk_lLT (a := 0) (b := a) (by decide) h
  rw [e0] at h1 h2
  unfold lg_cmp
  by_cases q : a = 0
  · rw [if_neg (fun y => by have := h2.mp y; omega), if_pos (h1.mpr q)]
    exact ⟨fun _ => q, fun _ => rfl⟩
  · rw [if_pos (h2.mpr (by omega))]
    exact ⟨fun y => by exact absurd y (by decide), fun y => absurd y q⟩
theorem lg_e {a b : Nat} (ha : a < 2 ^ 63) (hb : b < 2 ^ 63) : lg_cmp (lN a) (lN b) = (0 : Int32) ↔ a = b := by
  have h1 := pk_lEQ ha hb
  have h2 := pk_lLT hb ha
  unfold lg_cmp
  by_cases q : a = b
  · rw [if_neg (fun y => by have := h2.mp y; omega), if_pos (h1.mpr q)]
    exact ⟨fun _ => q, fun _ => rfl⟩
  · by_cases r : b < a
    · rw [if_pos (h2.mpr r)]
      exact ⟨fun y => by exact absurd y (by decide), fun y => absurd y q⟩
    · rw [if_neg (fun y => r (h2.mp y)), if_neg (fun y => q (h1.mp y))]
      exact ⟨fun y => by exact absurd y (by decide), fun y => absurd y q⟩
/-- a number -/
def dec (T : Nat → Nat) (p : Nat) : Nat → Nat
  | 0 => 0
  | n + 1 => dec T p n * 10 + (T (p + n) - 48)
def dgs (T : Nat → Nat) (E p : Nat) : Nat := scn (fun q => dgt (T q)) (E - p) p
def p_num (T : Nat → Nat) (E p : Nat) : Option (Nat × Nat) := if dgs T E p = p ∨ 5 < dgs T E p - p ∨ 65535 < dec T p (dgs T E p - p) then none else some (dec T p (dgs T E p - p), dgs T E p)
theorem dgs_le {E p : Nat} (hp : p ≤ E) : p ≤ dgs T E p ∧ dgs T E p ≤ E := by
  have h1 := scn_ge (P := fun q => dgt (T q)) (E - p) p
  have h2 := scn_le (P := fun q => dgt (T q)) (E - p) p
  unfold dgs
  omega
theorem dec_lt {p : Nat} : ∀ (n : Nat), (∀ j, j < n → dgt (T (p + j)) = true) → dec T p n < 10 ^ n := by
  intro n
  induction n with
  | zero => intro h; show 0 < 10 ^ 0; decide
  | succ n ih =>
    intro h
    have h1 := ih (fun j hj => h j (by omega))
    have h2 := of_decide_eq_true (h n (by omega))
    show dec T p n * 10 + (T (p + n) - 48) < 10 ^ n * 10
    omega
theorem dec_6 {p n : Nat} (hn : n ≤ 6) (h : ∀ j, j < n → dgt (T (p + j)) = true) : dec T p n < 1000000 := by
  have h1 := dec_lt (T := T) (p := p) n h
  have h2 : 10 ^ n ≤ 10 ^ 6 := Nat.pow_le_pow_right (by decide) hn
  have h3 : (10 : Nat) ^ 6 = 1000000 := by decide
  omega
theorem q_n69 {p n : Nat} (hn : n ≤ 6) (hp : p + n ≤ 3000) (h : ∀ j, j < n → dgt (T (p + j)) = true) : b_LI_takeNumber_69 (nI (p + n)) (nI (dec T p n)) (nI n) = some (if n = 0 ∨ 5 < n ∨ 65535 < dec T p n then -1 else nI (dec T p n), nI (p + n)) := by
  have := dec_6 (T := T) hn h
  unfold b_LI_takeNumber_69
  rw [ic (nIe_0 (by omega)), ic (nIg_5 (by omega)), ic (nIm_65535 (by omega))]
  by_cases h1 : n = 0
  · rw [if_pos h1, if_pos (Or.inl h1)]
  · by_cases h2 : 5 < n
    · rw [if_neg h1, if_pos h2, if_pos (Or.inr (Or.inl h2))]
    · by_cases h3 : 65535 < dec T p n
      · rw [if_neg h1, if_neg h2, if_neg (by omega), if_pos (Or.inr (Or.inr h3))]
      · rw [if_neg h1, if_neg h2, if_pos (by omega), if_neg (by omega)]
theorem q_n4 {E p : Nat} (hT : ∀ i, T i < 256) (hE : E ≤ 3000) : ∀ (r n u : Nat), p + n + r = E → r < u → n ≤ 6 → (∀ j, j < n → dgt (T (p + j)) = true) → ∃ m, m ≤ 6 ∧ p + m ≤ E ∧ (∀ j, j < m → dgt (T (p + j)) = true) ∧ (m ≤ 5 → p + m = scn (fun q => dgt (T q)) r (p + n)) ∧ (5 < m → p + 5 < scn (fun q => dgt (T q)) r (p + n)) ∧ b_LI_takeNumber_4 u (nI (p + n)) (nI E) (nf T) (nI (dec T p n)) (nI n) = some (if m = 0 ∨ 5 < m ∨ 65535 < dec T p m then -1 else nI (dec T p m), nI (p + m)) := by
  intro r
  induction r with
  | zero =>
    intro n u h1 h2 h3 h4
    obtain ⟨u, rfl⟩ : ∃ m, u = m + 1 := ⟨u - 1, by omega⟩
    refine ⟨n, h3, by omega, h4, fun _ => rfl, fun q => ?_, ?_⟩
    · show p + 5 < p + n
      omega
    · rw [b_LI_takeNumber_4, if_pos ((nI_leI (by omega) (by omega)).mpr (by omega))]
      exact q_n69 h3 (by omega) h4
  | succ r ih =>
    intro n u h1 h2 h3 h4
    obtain ⟨u, rfl⟩ : ∃ m, u = m + 1 := ⟨u - 1, by omega⟩
    have hlt := hT (p + n)
    have hg := scn_ge (P := fun q => dgt (T q)) (r + 1) (p + n)
    have hd6 := dec_6 (T := T) h3 h4
    have es : scn (fun q => dgt (T q)) (r + 1) (p + n) = if dgt (T (p + n)) = true then scn (fun q => dgt (T q)) r (p + n + 1) else p + n := rfl
    by_cases hn : n = 6
    · subst hn
      refine ⟨6, by omega, by omega, h4, fun q => by omega, fun q => by omega, ?_⟩
      rw [b_LI_takeNumber_4, if_neg (fun q => by have := (nI_leI (by omega) (by omega)).mp q; omega)]
      simp only [if_pos ((ck_nI (n := p + 6) (N := 3000) (by omega)).mpr (by omega)), nI_clamp (show p + 6 < 2 ^ 31 by omega), nf_at, q_dg hlt, Option.bind_some]
      rw [if_pos (show (5 : Int32) < nI 6 by decide), q_n69 (by omega) (by omega) h4]
      split <;> rfl
    · cases hd : dgt (T (p + n)) with
      | false =>
        rw [hd, if_neg (show ¬ false = true by decide)] at es
        refine ⟨n, h3, by omega, h4, fun q => es.symm, fun q => by omega, ?_⟩
        rw [b_LI_takeNumber_4, if_neg (fun q => by have := (nI_leI (by omega) (by omega)).mp q; omega)]
        simp only [if_pos ((ck_nI (n := p + n) (N := 3000) (by omega)).mpr (by omega)), nI_clamp (show p + n < 2 ^ 31 by omega), nf_at, q_dg hlt, Option.bind_some]
        rw [hd, if_pos bi_f]
        exact q_n69 h3 (by omega) h4
      | true =>
        rw [hd, if_pos rfl] at es
        obtain ⟨m, m1, m2, m3, m4, m5, m6⟩ := ih (n + 1) u (by omega) (by omega) (by omega) (fun j hj => by
          by_cases e : j = n
          · subst e; exact hd
          · exact h4 j (by omega))
        refine ⟨m, m1, m2, m3, fun q => (m4 q).trans es.symm, fun q => by have := m5 q; rw [es]; exact this, ?_⟩
        have hd' := of_decide_eq_true hd
        have ev : nI (dec T p n) * 10 + nI (T (p + n)) - 48 = nI (dec T p (n + 1)) := by
          have e10 : nI 10 = (10 : Int32) := rfl
          have e48 : nI 48 = (48 : Int32) := rfl
          rw [← e10, ← e48, pk_mul, nI_add, pk_sub (by omega)]
          congr 1
          show _ = dec T p n * 10 + (T (p + n) - 48)
          omega
        rw [b_LI_takeNumber_4, if_neg (fun q => by have := (nI_leI (by omega) (by omega)).mp q; omega)]
        simp only [if_pos ((ck_nI (n := p + n) (N := 3000) (by omega)).mpr (by omega)), nI_clamp (show p + n < 2 ^ 31 by omega), nf_at, q_dg hlt, Option.bind_some]
        rw [hd, if_neg bi_t, if_neg (fun q => by have := (nIg_5 (by omega)).mp q; omega), ev, nI_1, nI_1]
        exact m6
theorem q_num {E p : Nat} (hT : ∀ i, T i < 256) (hE : E ≤ 3000) (hp : p ≤ E) : (p_num T E p = none ∧ ∃ q, f_LI_takeNumber (nI p) (nI E) (nf T) = some (-1, nI q)) ∨ (∃ v q, p_num T E p = some (v, q) ∧ v < 65536 ∧ p ≤ q ∧ q ≤ E ∧ f_LI_takeNumber (nI p) (nI E) (nf T) = some (nI v, nI q)) := by
  obtain ⟨m, m1, m2, m3, m4, m5, m6⟩ := q_n4 (T := T) (p := p) hT hE (E - p) 0 65536 (by omega) (by omega) (by omega) (fun j hj => by omega)
  have hq := dgs_le (T := T) hp
  have m6' : f_LI_takeNumber (nI p) (nI E) (nf T) = some (if m = 0 ∨ 5 < m ∨ 65535 < dec T p m then -1 else nI (dec T p m), nI (p + m)) := m6
  have m4' : m ≤ 5 → p + m = dgs T E p := m4
  have m5' : 5 < m → p + 5 < dgs T E p := m5
  by_cases h : m = 0 ∨ 5 < m ∨ 65535 < dec T p m
  · left
    refine ⟨?_, p + m, by rw [m6', if_pos h]⟩
    unfold p_num
    rw [if_pos]
    by_cases h5 : 5 < m
    · have := m5' h5; omega
    · have e := m4' (by omega)
      rw [← e, Nat.add_sub_cancel_left]
      omega
  · right
    have e := m4' (by omega)
    refine ⟨dec T p m, p + m, ?_, by omega, by omega, m2, by rw [m6', if_neg h]⟩
    unfold p_num
    rw [← e, Nat.add_sub_cancel_left, if_neg (by omega)]
/-- a register -/
def p_reg (T : Nat → Nat) (E p : Nat) : Option (Nat × Nat) := if hc T E p = 32 ∧ hc T E (sk T E p) = 114 ∧ 48 ≤ hc T E (sk T E p + 1) ∧ hc T E (sk T E p + 1) ≤ 55 then some (hc T E (sk T E p + 1) - 48, sk T E p + 2) else none
theorem hc_p {E p c : Nat} (h : hc T E p = c) (h0 : 0 < c) : p < E := by
  unfold hc at h
  by_cases q : p < E
  · exact q
  · rw [if_neg q] at h; omega
theorem q_reg_ {E p : Nat} (hT : ∀ i, T i < 256) (hE : E ≤ 3000) (hp : p ≤ E) : (p_reg T E p = none ∧ ∃ q, p ≤ q ∧ q ≤ E ∧ f_LI_takeRegister (nI p) (nI E) (nf T) = some (-1, nI q)) ∨ (∃ v q, p_reg T E p = some (v, q) ∧ v < 8 ∧ p ≤ q ∧ q ≤ E ∧ f_LI_takeRegister (nI p) (nI E) (nf T) = some (nI v, nI q)) := by
  have hs := sk_le (T := T) hp
  unfold f_LI_takeRegister p_reg
  rw [q_here hE (by omega), Option.bind_some, ic (hr_32 hT)]
  by_cases h1 : hc T E p = 32
  · rw [if_pos h1, q_sk hE hT hp, Option.bind_some, q_here hE (by omega), Option.bind_some, ic (hr_114 hT)]
    by_cases h2 : hc T E (sk T E p) = 114
    · have hlt := hc_p h2 (by omega)
      rw [if_pos h2, nI_1, q_here hE (by omega), Option.bind_some, nI_1]
      by_cases h3 : sk T E p + 1 < E
      · have e1 : hr T E (sk T E p + 1) = nI (T (sk T E p + 1)) := if_pos h3
        have e2 : hc T E (sk T E p + 1) = T (sk T E p + 1) := if_pos h3
        have := hT (sk T E p + 1)
        rw [e1, e2, ic (nIl_48 (by omega)), ic (nIm_55 (by omega))]
        by_cases h4 : 48 ≤ T (sk T E p + 1) ∧ T (sk T E p + 1) ≤ 55
        · right
          refine ⟨T (sk T E p + 1) - 48, sk T E p + 2, if_pos ⟨h1, h2, h4⟩, by omega, by omega, by omega, ?_⟩
          have e48 : nI 48 = (48 : Int32) := rfl
          rw [if_neg (by omega), if_pos h4.2, ← e48, pk_sub (by omega)]
        · left
          refine ⟨if_neg (fun y => h4 y.2.2), sk T E p + 1, by omega, by omega, ?_⟩
          by_cases h5 : T (sk T E p + 1) < 48
          · rw [if_pos h5]
          · rw [if_neg h5, if_neg (by omega)]
      · have e1 : hr T E (sk T E p + 1) = -1 := if_neg h3
        have e2 : hc T E (sk T E p + 1) = 0 := if_neg h3
        left
        refine ⟨if_neg (fun y => by have := y.2.2.1; omega), sk T E p + 1, by omega, by omega, ?_⟩
        rw [e1, if_pos (by decide)]
    · left
      exact ⟨if_neg (fun y => h2 y.2.1), sk T E p, hs.1, hs.2, if_neg h2⟩
  · left
    exact ⟨if_neg (fun y => h1 y.1), p, Nat.le_refl _, hp, if_neg h1⟩
/-- a number or a label -/
def p_val (T : Nat → Nat) (E p : Nat) (pl : Bool) : Option (Nat × Nat × Nat × Nat) :=
  if hc T E p = 32 then
    (if pl = true ∨ sml (hc T E (sk T E p)) = false then (p_num T E (sk T E p)).bind fun x => some (x.1, 0, 0, x.2)
     else if na T E (sk T E p) - sk T E p ≤ 8 then
       (if hc T E (na T E (sk T E p)) = 43 then (p_num T E (na T E (sk T E p) + 1)).bind fun x => some (x.1, sk T E p, na T E (sk T E p) - sk T E p, x.2)
        else some (0, sk T E p, na T E (sk T E p) - sk T E p, na T E (sk T E p)))
     else none)
  else none
theorem sml_an {E p : Nat} (h : sml (hc T E p) = true) : p < E ∧ p < na T E p := by
  have h1 : p < E := by
    unfold hc at h
    by_cases q : p < E
    · exact q
    · rw [if_neg q] at h; exact absurd h (by decide)
  refine ⟨h1, ?_⟩
  have h2 : hc T E p = T p := if_pos h1
  rw [h2] at h
  unfold na
  obtain ⟨k, hk⟩ : ∃ k, E - p = k + 1 := ⟨E - p - 1, by omega⟩
  rw [hk]
  have e : scn (fun q => an (T q)) (k + 1) p = if an (T p) = true then scn (fun q => an (T q)) k (p + 1) else p := rfl
  rw [e, if_pos (by unfold an; rw [h]; rfl)]
  have := scn_ge (P := fun q => an (T q)) k (p + 1)
  omega
theorem na_an {E p j : Nat} (hj : j < na T E p - p) : an (T (p + j)) = true := scn_in (P := fun q => an (T q)) (k := E - p) (p := p) (by omega) (by unfold na at hj; omega)
theorem q_val {E p w : Nat} (hT : ∀ i, T i < 256) (hE : E ≤ 3000) (hp : p ≤ E) (hw : ∀ x : Int32, x = nI w → (x &&& 8 = (0 : Int32) ↔ w ≠ 8)) : (p_val T E p (decide (w = 8)) = none ∧ ∃ a b c, f_LI_isNumberRead (nI p) (nI E) 0 0 (nf T) (nI w) = some (0, a, b, c)) ∨ (∃ v wf ws q, p_val T E p (decide (w = 8)) = some (v, wf, ws, q) ∧ v < 65536 ∧ p ≤ q ∧ q ≤ E ∧ ws ≤ 8 ∧ (∀ j, j < ws → an (T (wf + j)) = true) ∧ wf + ws ≤ E ∧ f_LI_isNumberRead (nI p) (nI E) 0 0 (nf T) (nI w) = some (1, nI q, nI v, lN (cod T wf ws))) := by
  have hs := sk_le (T := T) hp
  have l0 : lN (cod T 0 0) = (0 : Int64) := rfl
  unfold f_LI_isNumberRead p_val
  rw [q_here hE (by omega), Option.bind_some, ic (hr_32 hT)]
  by_cases h1 : hc T E p = 32
  · rw [if_pos h1, if_pos h1, q_sk hE hT hp, Option.bind_some, ic (hw (nI w) rfl), q_here hE (by omega), Option.bind_some, q_smH hT, Option.bind_some]
    have NUM : ∀ (q : Nat) (wf ws : Nat), q ≤ E → ws ≤ 8 → (∀ j, j < ws → an (T (wf + j)) = true) → wf + ws ≤ E → p ≤ q → ((p_num T E q).bind (fun x => some (x.1, wf, ws, x.2)) = none ∧ ∃ a b c, b_LI_isNumberRead_82 (nI q) (nI E) (lN (cod T wf ws)) (nf T) = some (0, a, b, c)) ∨ (∃ v wf' ws' q', (p_num T E q).bind (fun x => some (x.1, wf, ws, x.2)) = some (v, wf', ws', q') ∧ v < 65536 ∧ p ≤ q' ∧ q' ≤ E ∧ ws' ≤ 8 ∧ (∀ j, j < ws' → an (T (wf' + j)) = true) ∧ wf' + ws' ≤ E ∧ b_LI_isNumberRead_82 (nI q) (nI E) (lN (cod T wf ws)) (nf T) = some (1, nI q', nI v, lN (cod T wf' ws'))) := by
      intro q wf ws hq hws hwa hwe hpq
      unfold b_LI_isNumberRead_82
      rcases q_num (T := T) hT hE hq with ⟨a1, q', a2⟩ | ⟨v, q', a1, a2, a3, a4, a5⟩
      · left
        rw [a1, a2]
        refine ⟨rfl, nI q', -1, lN (cod T wf ws), ?_⟩
        rw [Option.bind_some]
        exact if_pos rfl
      · right
        refine ⟨v, wf, ws, q', by rw [a1]; rfl, a2, by omega, a4, hws, hwa, hwe, ?_⟩
        rw [a5, Option.bind_some]
        have : ¬ nI v = (-1 : Int32) := by
          intro y
          have := congrArg Int32.toInt y
          rw [nI_toInt (by omega)] at this
          have e : (-1 : Int32).toInt = -1 := by decide
          omega
        exact if_neg this
    unfold b_LI_isNumberRead_32 b_LI_isNumberRead_38
    by_cases h2 : w = 8
    · rw [if_neg (show ¬ w ≠ 8 from fun y => y h2), if_pos (show decide (w = 8) = true ∨ sml (hc T E (sk T E p)) = false from Or.inl (decide_eq_true h2)), if_neg (show ¬ (1 : Int32) = 0 by decide), ← l0]
      exact NUM _ 0 0 hs.2 (by omega) (fun j hj => by omega) (by omega) hs.1
    · rw [if_pos h2]
      cases h3 : sml (hc T E (sk T E p)) with
      | false =>
        rw [if_pos bi_f, if_pos (show decide (w = 8) = true ∨ false = false from Or.inr rfl), if_neg (show ¬ (1 : Int32) = 0 by decide), ← l0]
        exact NUM _ 0 0 hs.2 (by omega) (fun j hj => by omega) (by omega) hs.1
      | true =>
        obtain ⟨k1, k2⟩ := sml_an h3
        have k3 := na_le (T := T) (E := E) (p := sk T E p) hs.2
        rw [if_neg bi_t, if_neg (show ¬ (decide (w = 8) = true ∨ true = false) by simp [h2]), if_pos (show (0 : Int32) = 0 from rfl), q_tl hT hE hs.2, Option.bind_some]
        by_cases h4 : na T E (sk T E p) - sk T E p ≤ 8
        · have hl := cod_63 (T := T) (p := sk T E p) h4 (fun j hj => na_an hj)
          have h0 := (cod_lt (T := T) (p := sk T E p) (na T E (sk T E p) - sk T E p) (fun j hj => na_an hj)).2 (by omega)
          rw [if_pos h4, if_pos h4]
          dsimp only
          rw [if_neg (show ¬ lg_cmp (lN (cod T (sk T E p) (na T E (sk T E p) - sk T E p))) 0 = (0 : Int32) from fun y => by have := (lg_0 hl).mp y; omega), q_here hE (by omega), Option.bind_some, ic (hr_43 hT)]
          by_cases h5 : hc T E (na T E (sk T E p)) = 43
          · have := hc_p h5 (by omega)
            rw [if_pos h5, if_pos h5, nI_1]
            exact NUM _ _ _ (by omega) h4 (fun j hj => na_an hj) (by omega) (by omega)
          · rw [if_neg h5, if_neg h5]
            right
            exact ⟨0, sk T E p, na T E (sk T E p) - sk T E p, na T E (sk T E p), rfl, by omega, by omega, k3.2, h4, fun j hj => na_an hj, by omega, rfl⟩
        · rw [if_neg h4, if_neg h4]
          left
          exact ⟨rfl, _, _, _, if_pos (by decide)⟩
  · rw [if_neg h1, if_neg h1]
    left
    exact ⟨rfl, _, _, _, rfl⟩
end ASB
