/-! LABELS: looking one up, class and Model -/
section ASF
variable {T : Nat → Nat} {z : Nat → Int32} {e lc : Nat} {LF LS LA : Nat → Nat} {lF lS lA : Nat → Int32} {slb : Nat → Int64} {sla : Nat → Int32}
abbrev isL (T LF LS : Nat → Nat) (q n k : Nat) : Prop := LS k = n ∧ ∀ j, j < n → T (LF k + j) = T (q + j)
def fnd (T LF LS : Nat → Nat) (lc q n : Nat) : Nat := scn (fun k => decide (¬ isL T LF LS q n k)) lc 0
/-- a good label -/
def okN (T : Nat → Nat) (q n : Nat) : Prop := n ≤ 8 ∧ q + n ≤ 3000 ∧ ∀ j, j < n → an (T (q + j)) = true
def tabS (T : Nat → Nat) (lc : Nat) (LF LS LA : Nat → Nat) : Prop := lc ≤ 100 ∧ ∀ k, k < lc → okN T (LF k) (LS k) ∧ LA k < 65536
def tabM (lc : Nat) (LF LS LA : Nat → Nat) (lF lS lA : Nat → Int32) : Prop := ∀ k, k < lc → lF k = nI (LF k) ∧ lS k = nI (LS k) ∧ lA k = nI (LA k)
def tabC (T : Nat → Nat) (lc : Nat) (LF LS LA : Nat → Nat) (slb : Nat → Int64) (sla : Nat → Int32) : Prop := ∀ k, k < lc → slb k = lN (cod T (LF k) (LS k)) ∧ sla k = nI (LA k)
theorem okN_63 {q n : Nat} (h : okN T q n) : cod T q n < 2 ^ 63 := cod_63 h.1 h.2.2
theorem fnd_le {q n : Nat} : fnd T LF LS lc q n ≤ lc := by
  have := scn_le (P := fun k => decide (¬ isL T LF LS q n k)) lc 0
  unfold fnd
  omega
theorem q_adl {q n : Nat} (hS : tabS T lc LF LS LA) (hC : tabC T lc LF LS LA slb sla) (hq : okN T q n) : ∀ (r k u : Nat), k + r = lc → r < u → b_AS_addressOf_2 u (nI lc) slb sla (lN (cod T q n)) (nI k) = some (if scn (fun k => decide (¬ isL T LF LS q n k)) r k < lc then nI (LA (scn (fun k => decide (¬ isL T LF LS q n k)) r k)) else -1) := by
  have hl := hS.1
  intro r
  induction r with
  | zero =>
    intro k u h1 h2
    obtain ⟨u, rfl⟩ : ∃ m, u = m + 1 := ⟨u - 1, by omega⟩
    rw [b_AS_addressOf_2, if_pos ((nI_leI (by omega) (by omega)).mpr (by omega))]
    show _ = some (if k < lc then _ else _)
    rw [if_neg (by omega)]
  | succ r ih =>
    intro k u h1 h2
    obtain ⟨u, rfl⟩ : ∃ m, u = m + 1 := ⟨u - 1, by omega⟩
    obtain ⟨c1, c2⟩ := hC k (by omega)
    have hk := (hS.2 k (by omega)).1
    have key : lg_cmp (lN (cod T (LF k) (LS k))) (lN (cod T q n)) = (0 : Int32) ↔ isL T LF LS q n k := by
      rw [lg_e (okN_63 hk) (okN_63 hq), cod_inj _ _ hk.2.2 hq.2.2]
      unfold isL
      constructor
      · intro h; exact ⟨h.1, fun j hj => h.2 j (by omega)⟩
      · intro h; exact ⟨h.1, fun j hj => h.2 j (by have := h.1; omega)⟩
    rw [b_AS_addressOf_2, if_neg (fun q => by have := (nI_leI (by omega) (by omega)).mp q; omega)]
    simp only [if_pos ((ck_nI (n := k) (N := 100) (by omega)).mpr (by omega)), nI_clamp (show k < 2 ^ 31 by omega), c1, c2, nI_1]
    rw [ic key]
    show _ = some (if (if decide (¬ isL T LF LS q n k) = true then _ else _) < lc then nI (LA (if decide (¬ isL T LF LS q n k) = true then _ else _)) else -1)
    by_cases h : isL T LF LS q n k
    · have hd : decide (¬ isL T LF LS q n k) = false := by simpa using h
      rw [if_pos h, hd, if_neg (show ¬ false = true by decide), if_pos (by omega)]
    · rw [if_neg h, if_pos (decide_eq_true h)]
      exact ih (k + 1) u (by omega) (by omega)
/-- the class -/
theorem q_ad {q n : Nat} (hS : tabS T lc LF LS LA) (hC : tabC T lc LF LS LA slb sla) (hq : okN T q n) : f_AS_addressOf (nI lc) slb sla (lN (cod T q n)) = some (if fnd T LF LS lc q n < lc then nI (LA (fnd T LF LS lc q n)) else -1) := by
  have h := q_adl hS hC hq lc 0 65536 (by omega) (by have := hS.1; omega)
  rw [show nI 0 = (0 : Int32) from rfl] at h
  exact h
theorem m_f30 {q n k : Nat} {kx : Int32 → Int32 → Int32 → Int32 → Option Int32} (hT : ∀ i, T i < 256) (hz : tp z T) (hk : k < 100) (hf : lF k = nI (LF k)) (h1 : LF k + n ≤ 3000) (h2 : q + n ≤ 3000) : ∀ (r j u : Nat) (s : Bool), j + r = n → r < u → (s = true ∧ (∀ i, i < n → j ≤ i → T (LF k + i) = T (q + i)) → b_MD_find_30 kx u z lF (nI q) (nI n) (nI k) (bi s) (nI j) = kx (nI q) (nI n) (nI k) 1) ∧ (¬ (s = true ∧ (∀ i, i < n → j ≤ i → T (LF k + i) = T (q + i))) → b_MD_find_30 kx u z lF (nI q) (nI n) (nI k) (bi s) (nI j) = kx (nI q) (nI n) (nI k) 0) := by
  intro r
  induction r with
  | zero =>
    intro j u s h3 h4
    obtain ⟨u, rfl⟩ : ∃ m, u = m + 1 := ⟨u - 1, by omega⟩
    rw [b_MD_find_30, if_pos ((nI_leI (by omega) (by omega)).mpr (by omega))]
    cases s with
    | true => exact ⟨fun _ => rfl, fun h => absurd ⟨rfl, fun i h5 h6 => by omega⟩ h⟩
    | false => exact ⟨fun h => (by cases h.1), fun _ => rfl⟩
  | succ r ih =>
    intro j u s h3 h4
    obtain ⟨u, rfl⟩ : ∃ m, u = m + 1 := ⟨u - 1, by omega⟩
    rw [b_MD_find_30, if_neg (fun q => by have := (nI_leI (by omega) (by omega)).mp q; omega)]
    cases s with
    | false =>
      rw [if_pos bi_f]
      exact ⟨fun h => (by cases h.1), fun _ => rfl⟩
    | true =>
      rw [if_neg bi_t]
      simp only [if_pos ((ck_nI (n := k) (N := 100) (by omega)).mpr hk), nI_clamp (show k < 2 ^ 31 by omega), hf, nI_add, if_pos ((ck_nI (n := LF k + j) (N := 3000) (by omega)).mpr (by omega)), if_pos ((ck_nI (n := q + j) (N := 3000) (by omega)).mpr (by omega)), nI_clamp (show LF k + j < 2 ^ 31 by omega), nI_clamp (show q + j < 2 ^ 31 by omega), hz (LF k + j) (by omega), hz (q + j) (by omega), nI_1]
      rw [ic (sxb_inj (hT _) (hT _))]
      have key : (∀ i, i < n → j ≤ i → T (LF k + i) = T (q + i)) ↔ T (LF k + j) = T (q + j) ∧ (∀ i, i < n → j + 1 ≤ i → T (LF k + i) = T (q + i)) := by
        constructor
        · intro h; exact ⟨h j (by omega) (Nat.le_refl _), fun i h5 h6 => h i h5 (by omega)⟩
        · intro h i h5 h6
          by_cases y : i = j
          · subst y; exact h.1
          · exact h.2 i h5 (by omega)
      by_cases y : T (LF k + j) = T (q + j)
      · rw [if_pos y]
        have i1 := ih (j + 1) u true (by omega) (by omega)
        exact ⟨fun h => i1.1 ⟨rfl, (key.mp h.2).2⟩, fun h => i1.2 fun w => h ⟨trivial, key.mpr ⟨y, w.2⟩⟩⟩
      · rw [if_neg y]
        have i1 := (ih (j + 1) u false (by omega) (by omega)).2 (fun w => by cases w.1)
        exact ⟨fun h => absurd (key.mp h.2).1 y, fun _ => i1⟩
theorem m_fl {q n : Nat} (hT : ∀ i, T i < 256) (hz : tp z T) (hS : tabS T lc LF LS LA) (hM : tabM lc LF LS LA lF lS lA) (hq : okN T q n) : ∀ (r k u : Nat), k + r = lc → r < u → b_MD_find_2 u (nI lc) z lF lS (nI q) (nI n) (nI k) = some (if scn (fun k => decide (¬ isL T LF LS q n k)) r k < lc then nI (scn (fun k => decide (¬ isL T LF LS q n k)) r k) else -1) := by
  have hl := hS.1
  intro r
  induction r with
  | zero =>
    intro k u h1 h2
    obtain ⟨u, rfl⟩ : ∃ m, u = m + 1 := ⟨u - 1, by omega⟩
    rw [b_MD_find_2, if_pos ((nI_leI (by omega) (by omega)).mpr (by omega))]
    show _ = some (if k < lc then _ else _)
    rw [if_neg (by omega)]
  | succ r ih =>
    intro k u h1 h2
    obtain ⟨u, rfl⟩ : ∃ m, u = m + 1 := ⟨u - 1, by omega⟩
    obtain ⟨c1, c2, c3⟩ := hM k (by omega)
    have hk := (hS.2 k (by omega)).1
    obtain ⟨k1, k2, k3⟩ := hk
    obtain ⟨q1, q2, q3⟩ := hq
    rw [b_MD_find_2, if_neg (fun q => by have := (nI_leI (by omega) (by omega)).mp q; omega), if_pos ((ck_nI (by omega)).mpr (by omega)), nI_clamp (by omega), c2, ic (nI_eq (by omega) (by omega))]
    have IH := ih (k + 1) u (by omega) (by omega)
    show _ = some (if (if decide (¬ isL T LF LS q n k) = true then _ else _) < lc then nI (if decide (¬ isL T LF LS q n k) = true then _ else _) else -1)
    by_cases hn : LS k = n
    · rw [if_pos hn]
      have m3 := m_f30 (z := z) (LF := LF) (lF := lF) (q := q) (n := n) (k := k) (kx := fun x1_12 x2_12 x3_12 x4_12 => (if x4_12 = (0 : Int32) then b_MD_find_2 u (nI lc) z lF lS x1_12 x2_12 (x3_12 + 1) else (some x3_12))) hT hz (by omega) c1 (by omega) q2 n 0 65536 true (by omega) (by omega)
      rw [show bi true = (1 : Int32) from rfl, show nI 0 = (0 : Int32) from rfl] at m3
      by_cases h : isL T LF LS q n k
      · have hd : decide (¬ isL T LF LS q n k) = false := by simpa using h
        rw [hd, if_neg (show ¬ false = true by decide), if_pos (by omega), m3.1 ⟨rfl, fun i h5 h6 => h.2 i h5⟩]
        exact if_neg (show ¬ (1 : Int32) = 0 by decide)
      · rw [if_pos (decide_eq_true h), m3.2 (fun w => h ⟨hn, fun i h5 => w.2 i h5 (by omega)⟩), ← IH, nI_1]
        exact if_pos rfl
    · have h : ¬ isL T LF LS q n k := fun h => hn h.1
      rw [if_neg hn, if_pos (decide_eq_true h), ← IH]
      obtain ⟨w, hw⟩ : ∃ w, 65536 = w + 1 := ⟨65535, rfl⟩
      rw [hw, b_MD_find_30]
      by_cases hn0 : nI n ≤ (0 : Int32)
      · rw [if_pos hn0, if_pos rfl, nI_1]
      · rw [if_neg hn0, if_pos rfl, if_pos rfl, nI_1]
/-- the Model -/
theorem m_fnd {q n : Nat} (hT : ∀ i, T i < 256) (hz : tp z T) (hS : tabS T lc LF LS LA) (hM : tabM lc LF LS LA lF lS lA) (hq : okN T q n) : f_MD_find (nI lc) z lF lS (nI q) (nI n) = some (if fnd T LF LS lc q n < lc then nI (fnd T LF LS lc q n) else -1) := by
  have h := m_fl hT hz hS hM hq lc 0 65536 (by omega) (by have := hS.1; omega)
  rw [show nI 0 = (0 : Int32) from rfl] at h
  exact h
end ASF
