/-! THE TEXT: scanning, and the names of the orders -/
section ASA
theorem bi_f : bi false = (0 : Int32) := rfl
theorem bi_t : ¬ bi true = (0 : Int32) := by decide
def scn (P : Nat → Bool) : Nat → Nat → Nat
  | 0, p => p
  | k + 1, p => if P p = true then scn P k (p + 1) else p
variable {P : Nat → Bool} {T : Nat → Nat} {z : Nat → Int32}
theorem scn_all : ∀ (k p : Nat), p ≤ scn P k p ∧ scn P k p ≤ p + k ∧ (∀ i, p ≤ i → i < scn P k p → P i = true) ∧ (scn P k p < p + k → P (scn P k p) = false) := by
  intro k
  induction k with
  | zero => intro p; exact ⟨Nat.le_refl _, Nat.le_refl _, fun i h1 h2 => by have : i < p := h2; omega, fun h => by have : p < p + 0 := h; omega⟩
  | succ k ih =>
    intro p
    unfold scn
    by_cases h : P p = true
    · rw [if_pos h]
      obtain ⟨a1, a2, a3, a4⟩ := ih (p + 1)
      refine ⟨by omega, by omega, fun i h1 h2 => ?_, fun q => a4 (by omega)⟩
      by_cases e : i = p
      · subst e; exact h
      · exact a3 i (by omega) h2
    · rw [if_neg h]
      exact ⟨Nat.le_refl _, by omega, fun i h1 h2 => by omega, fun _ => by simpa using h⟩
theorem scn_ge (k p : Nat) : p ≤ scn P k p := (scn_all k p).1
theorem scn_le (k p : Nat) : scn P k p ≤ p + k := (scn_all k p).2.1
theorem scn_in {k p i : Nat} (h1 : p ≤ i) (h2 : i < scn P k p) : P i = true := (scn_all k p).2.2.1 i h1 h2
theorem scn_out {k p : Nat} (h : scn P k p < p + k) : P (scn P k p) = false := (scn_all k p).2.2.2 h
theorem scn_eq {k p q : Nat} (h1 : p ≤ q) (h2 : q ≤ p + k) (h3 : ∀ i, p ≤ i → i < q → P i = true) (h4 : q < p + k → P q = false) : scn P k p = q := by
  obtain ⟨a1, a2, a3, a4⟩ := scn_all (P := P) k p
  rcases Nat.lt_trichotomy (scn P k p) q with h | h | h
  · have b1 := h3 _ a1 h
    have b2 := a4 (by omega)
    rw [b2] at b1; cases b1
  · exact h
  · have b1 := a3 q h1 h
    have b2 := h4 (by omega)
    rw [b2] at b1; cases b1
theorem scn_lim {p E e : Nat} (h1 : p ≤ E) (h2 : E ≤ e) (h3 : E = e ∨ P E = false) : scn P (e - p) p = scn P (E - p) p := by
  obtain ⟨a1, a2, a3, a4⟩ := scn_all (P := P) (E - p) p
  refine scn_eq a1 (by omega) a3 fun h => ?_
  by_cases q : scn P (E - p) p < E
  · exact a4 (by omega)
  · have : scn P (E - p) p = E := by omega
    rw [this]
    rcases h3 with h3 | h3
    · omega
    · exact h3
/-- bytes -/
def sml (c : Nat) : Bool := decide (97 ≤ c ∧ c ≤ 122)
def dgt (c : Nat) : Bool := decide (48 ≤ c ∧ c ≤ 57)
def grt (c : Nat) : Bool := decide (65 ≤ c ∧ c ≤ 90)
def hr (T : Nat → Nat) (E p : Nat) : Int32 := if p < E then nI (T p) else -1
def hc (T : Nat → Nat) (E p : Nat) : Nat := if p < E then T p else 0
def sxb (b : Nat) : Int32 := (nI b).toInt8.toInt32
def tp (z : Nat → Int32) (T : Nat → Nat) : Prop := ∀ i, i < 3000 → z i = sxb (T i)
theorem sxb_and {b : Nat} (h : b < 256) : sxb b &&& 255 = nI b := by
  have K : ∀ b, b < 256 → sxb b &&& 255 = nI b := by decide +kernel
  exact K b h
theorem sxb_lo {c : Nat} (h : c < 128) : sxb c = nI c := by
  have K : ∀ c, c < 128 → sxb c = nI c := by decide +kernel
  exact K c h
theorem sxb_inj {a b : Nat} (ha : a < 256) (hb : b < 256) : sxb a = sxb b ↔ a = b := by
  constructor
  · intro h
    have h2 : sxb a &&& 255 = sxb b &&& 255 := by rw [h]
    rw [sxb_and ha, sxb_and hb] at h2
    exact (nI_eq (by omega) (by omega)).mp h2
  · intro h; rw [h]
theorem sxb_eq {a c : Nat} (ha : a < 256) (hc : c < 128) : sxb a = nI c ↔ a = c := by
  rw [← sxb_lo hc]
  exact sxb_inj ha (by omega)
theorem sxb_l {a c : Nat} {x : Int32} (ha : a < 256) (hc : c < 128) (e : x = nI c) : sxb a = x ↔ a = c := by
  rw [e]
  exact sxb_eq ha hc
theorem q_sm {c : Nat} (h : c < 256) : f_LI_isLetter (nI c) = some (bi (sml c)) := by
  have K : ∀ c, c < 256 → f_LI_isLetter (nI c) = some (bi (sml c)) := by decide +kernel
  exact K c h
theorem q_dg {c : Nat} (h : c < 256) : f_LI_isDigit (nI c) = some (bi (dgt c)) := by
  have K : ∀ c, c < 256 → f_LI_isDigit (nI c) = some (bi (dgt c)) := by decide +kernel
  exact K c h
theorem m_sm {c : Nat} (h : c < 256) : f_MD_isSmall (nI c) = some (bi (sml c)) := by
  have K : ∀ c, c < 256 → f_MD_isSmall (nI c) = some (bi (sml c)) := by decide +kernel
  exact K c h
theorem m_dg {c : Nat} (h : c < 256) : f_MD_isDigit (nI c) = some (bi (dgt c)) := by
  have K : ∀ c, c < 256 → f_MD_isDigit (nI c) = some (bi (dgt c)) := by decide +kernel
  exact K c h
theorem m_gr {c : Nat} (h : c < 256) : f_MD_isGreat (nI c) = some (bi (grt c)) := by
  have K : ∀ c, c < 256 → f_MD_isGreat (nI c) = some (bi (grt c)) := by decide +kernel
  exact K c h
theorem q_smH {E p : Nat} (hT : ∀ i, T i < 256) : f_LI_isLetter (hr T E p) = some (bi (sml (hc T E p))) := by
  unfold hr hc
  by_cases h : p < E
  · rw [if_pos h, if_pos h]; exact q_sm (hT p)
  · rw [if_neg h, if_neg h]; decide
theorem m_smH {E p : Nat} (hT : ∀ i, T i < 256) : f_MD_isSmall (hr T E p) = some (bi (sml (hc T E p))) := by
  unfold hr hc
  by_cases h : p < E
  · rw [if_pos h, if_pos h]; exact m_sm (hT p)
  · rw [if_neg h, if_neg h]; decide
theorem m_dgH {E p : Nat} (hT : ∀ i, T i < 256) : f_MD_isDigit (hr T E p) = some (bi (dgt (hc T E p))) := by
  unfold hr hc
  by_cases h : p < E
  · rw [if_pos h, if_pos h]; exact m_dg (hT p)
  · rw [if_neg h, if_neg h]; decide
theorem m_grH {E p : Nat} (hT : ∀ i, T i < 256) : f_MD_isGreat (hr T E p) = some (bi (grt (hc T E p))) := by
  unfold hr hc
  by_cases h : p < E
  · rw [if_pos h, if_pos h]; exact m_gr (hT p)
  · rw [if_neg h, if_neg h]; decide
theorem hr_eq {E p c : Nat} (hT : ∀ i, T i < 256) (h0 : 0 < c) (h1 : c < 256) : hr T E p = nI c ↔ hc T E p = c := by
  unfold hr hc
  by_cases h : p < E
  · rw [if_pos h, if_pos h]
    exact nI_eq (by have := hT p; omega) (by omega)
  · rw [if_neg h, if_neg h]
    constructor
    · intro q
      exfalso
      have := congrArg Int32.toInt q
      rw [nI_toInt (by omega)] at this
      have e : (-1 : Int32).toInt = -1 := by decide
      omega
    · intro q; omega
theorem hr_l {E p c : Nat} {x : Int32} (hT : ∀ i, T i < 256) (h0 : 0 < c) (h1 : c < 256) (e : x = nI c) : hr T E p = x ↔ hc T E p = c := by
  rw [e]
  exact hr_eq hT h0 h1
theorem q_here {E p : Nat} (hE : E ≤ 3000) (hp : p ≤ 3000) : f_LI_here (nI p) (nI E) (nf T) = some (hr T E p) := by
  unfold f_LI_here hr
  rw [ic (nI_leI (by omega) (by omega))]
  by_cases h : p < E
  · rw [if_neg (by omega), if_pos h, if_pos ((ck_nI (by omega)).mpr (by omega)), nI_clamp (by omega), nf_at]
  · rw [if_pos (by omega), if_neg h]
theorem m_byte {e p : Nat} (hT : ∀ i, T i < 256) (hz : tp z T) (he : e ≤ 3000) (hp : p ≤ 6000) : f_MD_byteAt (nI e) z (nI p) = some (hr T e p) := by
  unfold f_MD_byteAt hr
  rw [ic (nI_leI (by omega) (by omega))]
  by_cases h : p < e
  · rw [if_neg (by omega), if_pos h, if_pos ((ck_nI (by omega)).mpr (by omega)), nI_clamp (by omega), hz p (by omega), sxb_and (hT p)]
  · rw [if_pos (by omega), if_neg h]
/-- blanks -/
def sk (T : Nat → Nat) (E p : Nat) : Nat := scn (fun q => decide (T q = 32)) (E - p) p
theorem q_skl {E : Nat} (hE : E ≤ 3000) (hT : ∀ i, T i < 256) : ∀ (k p u : Nat), p + k = E → k < u → b_LI_skipBlanks_0 u (nI p) (nI E) (nf T) = some (nI (scn (fun q => decide (T q = 32)) k p)) := by
  intro k
  induction k with
  | zero =>
    intro p u h1 h2
    obtain ⟨u, rfl⟩ : ∃ m, u = m + 1 := ⟨u - 1, by omega⟩
    rw [b_LI_skipBlanks_0, if_pos ((nI_leI (by omega) (by omega)).mpr (by omega))]
    rfl
  | succ k ih =>
    intro p u h1 h2
    obtain ⟨u, rfl⟩ : ∃ m, u = m + 1 := ⟨u - 1, by omega⟩
    have := hT p
    rw [b_LI_skipBlanks_0, if_neg (fun q => by have := (nI_leI (by omega) (by omega)).mp q; omega), if_pos ((ck_nI (by omega)).mpr (by omega)), nI_clamp (by omega), nf_at, ic (nIe_32 (by omega)), nI_1]
    show _ = some (nI (if decide (T p = 32) = true then _ else _))
    by_cases h : T p = 32
    · rw [if_pos h, if_pos (decide_eq_true h)]
      exact ih (p + 1) u (by omega) (by omega)
    · rw [if_neg h, if_neg (by simpa using h)]
theorem q_sk {E p : Nat} (hE : E ≤ 3000) (hT : ∀ i, T i < 256) (hp : p ≤ E) : f_LI_skipBlanks (nI p) (nI E) (nf T) = some (nI (sk T E p)) := q_skl hE hT (E - p) p 65536 (by omega) (by omega)
theorem m_skl {e : Nat} (he : e ≤ 3000) (hT : ∀ i, T i < 256) (hz : tp z T) : ∀ (k p u : Nat), p + k = e → k < u → b_MD_blanks_0 u (nI p) (nI e) z = some (nI (scn (fun q => decide (T q = 32)) k p)) := by
  intro k
  induction k with
  | zero =>
    intro p u h1 h2
    obtain ⟨u, rfl⟩ : ∃ m, u = m + 1 := ⟨u - 1, by omega⟩
    rw [b_MD_blanks_0, if_pos ((nI_leI (by omega) (by omega)).mpr (by omega))]
    rfl
  | succ k ih =>
    intro p u h1 h2
    obtain ⟨u, rfl⟩ : ∃ m, u = m + 1 := ⟨u - 1, by omega⟩
    rw [b_MD_blanks_0, if_neg (fun q => by have := (nI_leI (by omega) (by omega)).mp q; omega), if_pos ((ck_nI (by omega)).mpr (by omega)), nI_clamp (by omega), hz p (by omega), ic (sxb_l (c := 32) (x := (32 : Int32)) (hT p) (by omega) rfl), nI_1]
    show _ = some (nI (if decide (T p = 32) = true then _ else _))
    by_cases h : T p = 32
    · rw [if_pos h, if_pos (decide_eq_true h)]
      exact ih (p + 1) u (by omega) (by omega)
    · rw [if_neg h, if_neg (by simpa using h)]
theorem m_sk {e p : Nat} (he : e ≤ 3000) (hT : ∀ i, T i < 256) (hz : tp z T) (hp : p ≤ e) : f_MD_blanks (nI p) (nI e) z = some (nI (sk T e p)) := m_skl he hT hz (e - p) p 65536 (by omega) (by omega)
/-- the content of a line ends at E: at the text's end, a new line or a remark -/
def lnE (T : Nat → Nat) (e E : Nat) : Prop := E ≤ e ∧ (E = e ∨ T E = 10 ∨ T E = 59)
theorem sk_lim {e E p : Nat} (h : lnE T e E) (hp : p ≤ E) : sk T e p = sk T E p := scn_lim hp h.1 (by
  rcases h.2 with q | q | q
  · exact Or.inl q
  · exact Or.inr (by simp [q])
  · exact Or.inr (by simp [q]))
theorem sk_le {E p : Nat} (hp : p ≤ E) : p ≤ sk T E p ∧ sk T E p ≤ E := by
  have h1 := scn_ge (P := fun q => decide (T q = 32)) (E - p) p
  have h2 := scn_le (P := fun q => decide (T q = 32)) (E - p) p
  unfold sk
  omega
/-- at a place of the line, a byte that no end of a line is -/
theorem hc_lim {e E p : Nat} {c : Nat} (h : lnE T e E) (hp : p ≤ E) (h0 : c ≠ 0 ∧ c ≠ 10 ∧ c ≠ 59) : hc T e p = c ↔ hc T E p = c := by
  unfold hc
  by_cases q : p < E
  · rw [if_pos q, if_pos (by have := h.1; omega)]
  · have e1 : p = E := by omega
    subst e1
    rw [if_neg q]
    rcases h.2 with r | r | r
    · rw [if_neg (by omega)]
    · by_cases y : p < e
      · rw [if_pos y]; omega
      · rw [if_neg y]
    · by_cases y : p < e
      · rw [if_pos y]; omega
      · rw [if_neg y]
theorem hcb_lim {e E p : Nat} {f : Nat → Bool} (h : lnE T e E) (hp : p ≤ E) (h0 : f 0 = false ∧ f 10 = false ∧ f 59 = false) : f (hc T e p) = f (hc T E p) := by
  unfold hc
  by_cases q : p < E
  · rw [if_pos q, if_pos (by have := h.1; omega)]
  · have e1 : p = E := by omega
    subst e1
    rw [if_neg q]
    rcases h.2 with r | r | r
    · rw [if_neg (by omega)]
    · by_cases y : p < e
      · rw [if_pos y, r, h0.1, h0.2.1]
      · rw [if_neg y]
    · by_cases y : p < e
      · rw [if_pos y, r, h0.1, h0.2.2]
      · rw [if_neg y]
/-- the orders' names -/
def nmL : List (List Nat) := [[72, 65, 76, 84], [83, 69, 84], [76, 79, 65, 68], [83, 84, 79, 82, 69], [76, 79, 65, 68, 88], [83, 84, 79, 82, 69, 88], [77, 79, 86, 69], [65, 68, 68], [83, 85, 66], [65, 78, 68], [76, 69, 83, 83], [83, 72, 73, 70, 84], [74, 85, 77, 80], [90, 69, 82, 79], [71, 79], [67, 65, 76, 76], [83, 86, 67], [76, 80, 83, 87], [83, 80, 83, 87], [83, 69, 84, 84], [71, 69, 84, 84], [73, 78], [79, 85, 84], [71, 69, 84, 66], [80, 85, 84, 66], [87, 79, 82, 68], [83, 80, 65, 67, 69], [65, 84]]
def nmB (i : Nat) : List Nat := nmL.getD i []
abbrev isN (T : Nat → Nat) (p n i : Nat) : Prop := n = (nmB i).length ∧ ∀ j, j < n → T (p + j) = (nmB i).getD j 0
def p_ord (T : Nat → Nat) (p n : Nat) : Nat := scn (fun i => decide (¬ isN T p n i)) 28 0
theorem nm_ch : ∀ i, i < 28 → ∀ k, k < 6 → f_JS_charAt (nI i * 6 + nI k) = some (nI (if k < (nmB i).length then (nmB i).getD k 0 else 32)) := by decide +kernel
theorem nm_len : ∀ i, i < 28 → (nmB i).length ≤ 6 := by decide +kernel
theorem nm_gr : ∀ i, i < 28 → ∀ k, k < (nmB i).length → grt ((nmB i).getD k 0) = true := by decide +kernel
theorem icI {c d : Prop} [Decidable c] [Decidable d] {a b : Int32} (h : c ↔ d) : (if c then a else b) = if d then a else b := ic h
def nmO (T : Nat → Nat) (p n i k : Nat) : Prop := ∀ j, j < 6 → k ≤ j → (if j < (nmB i).length then (nmB i).getD j 0 else 32) = (if j < n then T (p + j) else 32)
theorem q_nml {p n i : Nat} (hT : ∀ i, T i < 256) (hi : i < 28) (hp : p + n ≤ 3000) : ∀ (r k u : Nat), k + r = 6 → r < u → (nmO T p n i k → b_LI_isNamed_11 u (nf T) (nI i) (nI p) (nI n) (nI k) = some 1) ∧ (¬ nmO T p n i k → b_LI_isNamed_11 u (nf T) (nI i) (nI p) (nI n) (nI k) = some 0) := by
  intro r
  induction r with
  | zero =>
    intro k u h1 h2
    obtain ⟨u, rfl⟩ : ∃ m, u = m + 1 := ⟨u - 1, by omega⟩
    rw [b_LI_isNamed_11, if_pos ((nIn_6 (by omega)).mpr (by omega))]
    exact ⟨fun _ => rfl, fun h => absurd (fun j h4 h3 => by omega) h⟩
  | succ r ih =>
    intro k u h1 h2
    obtain ⟨u, rfl⟩ : ∃ m, u = m + 1 := ⟨u - 1, by omega⟩
    have hch := nm_ch i hi k (by omega)
    have hl : (if k < (nmB i).length then (nmB i).getD k 0 else 32) < 256 := by
      by_cases y : k < (nmB i).length
      · rw [if_pos y]
        have := nm_gr i hi k y
        have := of_decide_eq_true this
        omega
      · rw [if_neg y]; omega
    have key : nmO T p n i k ↔ (if k < (nmB i).length then (nmB i).getD k 0 else 32) = (if k < n then T (p + k) else 32) ∧ nmO T p n i (k + 1) := by
      constructor
      · intro h; exact ⟨h k (by omega) (Nat.le_refl _), fun j h4 h3 => h j h4 (by omega)⟩
      · intro h j h4 h3
        by_cases e : j = k
        · subst e; exact h.1
        · exact h.2 j h4 (by omega)
    obtain ⟨ih1, ih0⟩ := ih (k + 1) u (by omega) (by omega)
    rw [b_LI_isNamed_11, if_neg (fun q => by have := (nIn_6 (by omega)).mp q; omega), ic (nI_leI (by omega) (by omega)), hch, nI_1]
    rw [Option.bind_some, Option.bind_some]
    generalize (if k < (nmB i).length then (nmB i).getD k 0 else 32) = c at *
    by_cases hk : n ≤ k
    · rw [if_pos hk, ic (nIe_32 (by omega))]
      rw [if_neg (show ¬ k < n by omega)] at key
      by_cases y : c = 32
      · rw [if_pos y]
        exact ⟨fun h => ih1 (key.mp h).2, fun h => ih0 fun w => h (key.mpr ⟨y, w⟩)⟩
      · rw [if_neg y]
        exact ⟨fun h => absurd (key.mp h).1 y, fun _ => rfl⟩
    · rw [if_neg hk, nI_add, if_pos ((ck_nI (by omega)).mpr (by omega)), nI_clamp (by omega), nf_at, ic (nI_eq (by omega) (by have := hT (p + k); omega))]
      rw [if_pos (show k < n by omega)] at key
      by_cases y : c = T (p + k)
      · rw [if_pos y]
        exact ⟨fun h => ih1 (key.mp h).2, fun h => ih0 fun w => h (key.mpr ⟨y, w⟩)⟩
      · rw [if_neg y]
        exact ⟨fun h => absurd (key.mp h).1 y, fun _ => rfl⟩
theorem nmO_is {p n i : Nat} (hi : i < 28) (hn : n ≤ 6) (hg : ∀ j, j < n → grt (T (p + j)) = true) : nmO T p n i 0 ↔ isN T p n i := by
  have hl := nm_len i hi
  constructor
  · intro h
    have e : n = (nmB i).length := by
      rcases Nat.lt_trichotomy n (nmB i).length with q | q | q
      · have h1 := h n (by omega) (by omega)
        rw [if_pos q, if_neg (by omega)] at h1
        have h2 := nm_gr i hi n q
        rw [h1] at h2
        exact absurd h2 (by decide)
      · exact q
      · have h1 := h (nmB i).length (by omega) (by omega)
        rw [if_neg (by omega), if_pos q] at h1
        have h2 := hg _ q
        rw [← h1] at h2
        exact absurd h2 (by decide)
    refine ⟨e, fun j hj => ?_⟩
    have h1 := h j (by omega) (by omega)
    rw [if_pos (by omega), if_pos hj] at h1
    exact h1.symm
  · intro h j h1 h2
    by_cases q : j < n
    · rw [if_pos (by have := h.1; omega), if_pos q, h.2 j q]
    · rw [if_neg (by have := h.1; omega), if_neg q]
theorem q_named {p n i : Nat} (hT : ∀ i, T i < 256) (hi : i < 28) (hp : p + n ≤ 3000) (hg : ∀ j, j < n → grt (T (p + j)) = true) : f_LI_isNamed (nf T) (nI i) (nI p) (nI n) = some (if isN T p n i then 1 else 0) := by
  unfold f_LI_isNamed
  rw [ic (nIm_6 (by omega))]
  by_cases hn : n ≤ 6
  · have q := q_nml (T := T) (p := p) (n := n) hT hi hp 6 0 65536 (by omega) (by omega)
    rw [show nI 0 = (0 : Int32) from rfl] at q
    rw [if_pos hn]
    by_cases y : isN T p n i
    · rw [if_pos y]; exact q.1 ((nmO_is hi hn hg).mpr y)
    · rw [if_neg y]; exact q.2 fun w => y ((nmO_is hi hn hg).mp w)
  · rw [if_neg hn, if_neg]
    intro h
    have := h.1
    have := nm_len i hi
    omega
def oI (o : Nat) : Int32 := if o = 28 then -1 else nI o
theorem q_ordl {p n : Nat} (hT : ∀ i, T i < 256) (hp : p + n ≤ 3000) (hg : ∀ j, j < n → grt (T (p + j)) = true) : ∀ (r i u : Nat), i + r = 28 → r < u → b_LI_takeOrder_59 u (nI (p + n)) (nf T) (nI p) (nI i) = some (oI (scn (fun i => decide (¬ isN T p n i)) r i), nI (p + n)) := by
  intro r
  induction r with
  | zero =>
    intro i u h1 h2
    obtain ⟨u, rfl⟩ : ∃ m, u = m + 1 := ⟨u - 1, by omega⟩
    have e : i = 28 := by omega
    subst e
    rw [b_LI_takeOrder_59, if_pos (by decide)]
    rfl
  | succ r ih =>
    intro i u h1 h2
    obtain ⟨u, rfl⟩ : ∃ m, u = m + 1 := ⟨u - 1, by omega⟩
    rw [b_LI_takeOrder_59, if_neg (fun q => by have := (nIn_28 (by omega)).mp q; omega), pk_sub (by omega), Nat.add_sub_cancel_left, q_named hT (by omega) hp hg, Option.bind_some, nI_1]
    show _ = some (oI (if decide (¬ isN T p n i) = true then _ else _), _)
    by_cases h : isN T p n i
    · rw [if_pos h, if_neg (by decide), if_neg (show ¬ decide (¬ isN T p n i) = true from fun y => of_decide_eq_true y h)]
      unfold oI
      rw [if_neg (by omega)]
    · rw [if_neg h, if_pos rfl, if_pos (decide_eq_true h)]
      exact ih (i + 1) u (by omega) (by omega)
def up (T : Nat → Nat) (E p : Nat) : Nat := scn (fun q => grt (T q)) (E - p) p
theorem up_le {E p : Nat} (hp : p ≤ E) : p ≤ up T E p ∧ up T E p ≤ E := by
  have h1 := scn_ge (P := fun q => grt (T q)) (E - p) p
  have h2 := scn_le (P := fun q => grt (T q)) (E - p) p
  unfold up
  omega
theorem q_o57 {p q : Nat} (hT : ∀ i, T i < 256) (hpq : p ≤ q) (hq : q ≤ 3000) (hg : ∀ j, p ≤ j → j < q → grt (T j) = true) : b_LI_takeOrder_57 (nI q) (nf T) (nI p) = some (oI (p_ord T p (q - p)), nI q) := by
  obtain ⟨n, rfl⟩ : ∃ n, q = p + n := ⟨q - p, by omega⟩
  have h := q_ordl (T := T) (p := p) (n := n) hT hq (fun j hj => hg (p + j) (by omega) (by omega)) 28 0 65536 (by omega) (by omega)
  rw [show nI 0 = (0 : Int32) from rfl] at h
  unfold b_LI_takeOrder_57
  rw [Nat.add_sub_cancel_left]
  exact h
theorem q_ord5 {E p : Nat} (hT : ∀ i, T i < 256) (hE : E ≤ 3000) : ∀ (r q u : Nat), q + r = E → r < u → p ≤ q → (∀ j, p ≤ j → j < q → grt (T j) = true) → b_LI_takeOrder_5 u (nI q) (nI E) (nf T) (nI p) = some (oI (p_ord T p (scn (fun q => grt (T q)) r q - p)), nI (scn (fun q => grt (T q)) r q)) := by
  intro r
  induction r with
  | zero =>
    intro q u h1 h2 h3 h4
    obtain ⟨u, rfl⟩ : ∃ m, u = m + 1 := ⟨u - 1, by omega⟩
    rw [b_LI_takeOrder_5, if_pos ((nI_leI (by omega) (by omega)).mpr (by omega))]
    exact q_o57 hT h3 (by omega) h4
  | succ r ih =>
    intro q u h1 h2 h3 h4
    obtain ⟨u, rfl⟩ : ∃ m, u = m + 1 := ⟨u - 1, by omega⟩
    have := hT q
    rw [b_LI_takeOrder_5, if_neg (fun q => by have := (nI_leI (by omega) (by omega)).mp q; omega), if_pos ((ck_nI (by omega)).mpr (by omega)), if_pos ((ck_nI (by omega)).mpr (by omega)), nI_clamp (by omega), nf_at, ic (nIl_65 (by omega)), ic (nIg_90 (by omega)), nI_1]
    show _ = some (oI (p_ord T p ((if grt (T q) = true then _ else _) - p)), nI (if grt (T q) = true then _ else _))
    by_cases h : grt (T q) = true
    · have h' := of_decide_eq_true h
      rw [if_neg (by omega), if_neg (by omega), if_pos h]
      exact ih (q + 1) u (by omega) (by omega) (by omega) (fun j h5 h6 => by
        by_cases e : j = q
        · subst e; exact h
        · exact h4 j h5 (by omega))
    · have h' : ¬ (65 ≤ T q ∧ T q ≤ 90) := fun y => h (decide_eq_true y)
      rw [if_neg h]
      by_cases y : T q < 65
      · rw [if_pos y]; exact q_o57 hT h3 (by omega) h4
      · rw [if_neg y, if_pos (by omega)]; exact q_o57 hT h3 (by omega) h4
theorem q_order {E p : Nat} (hT : ∀ i, T i < 256) (hE : E ≤ 3000) (hp : p ≤ E) : f_LI_takeOrder (nI p) (nI E) (nf T) = some (oI (p_ord T p (up T E p - p)), nI (up T E p)) := q_ord5 hT hE (E - p) p 65536 (by omega) (by omega) (Nat.le_refl _) (fun j h1 h2 => by omega)
/-- the Model's names -/
def mo (T : Nat → Nat) (p n : Nat) : List Nat → Bool → Nat → Bool × Nat
  | [], s, m => (s, m)
  | c :: l, s, m => if s = false then (s, m) else if c = 0 then mo T p n l s m else if n ≤ m then mo T p n l false (m + 1) else mo T p n l (decide (T (p + m) = c)) (m + 1)
def nmP (i : Nat) : List Nat := List.replicate (6 - (nmB i).length) 0 ++ nmB i
def lw (i : Nat) : Int64 := (f_MD_name (nI i)).getD 0
theorem lw_ok : ∀ i, i < 28 → f_MD_name (nI i) = some (lw i) := by decide +kernel
def x8_ (r : Nat) : Int32 := if r = 0 then -8 else nI (8 * r - 8)
theorem lw_b : ∀ i, i < 28 → ∀ r, r < 6 → ((lw i >>> ((x8_ (r + 1)).toInt64 &&& 63)) &&& 255).toInt32 = nI ((nmP i).getD (5 - r) 0) := by decide +kernel
theorem nmP_l : ∀ i, i < 28 → (nmP i).length = 6 := by decide +kernel
theorem nmP_c : ∀ i, i < 28 → ∀ r, r < 6 → (nmP i).getD (5 - r) 0 < 128 := by decide +kernel
theorem x8_n : ∀ r, r < 6 → x8_ (r + 1) + (-8) = x8_ r ∧ ¬ x8_ (r + 1) < 0 := by decide +kernel
theorem x8_z : x8_ 0 < 0 := by decide
theorem m_o63 {p n i : Nat} {kx : Int32 → Int32 → Int32 → Int32 → Int32 → Option (Int32 × Int32)} (hT : ∀ i, T i < 256) (hz : tp z T) (hi : i < 28) (hp : p + n ≤ 3000) : ∀ (r u : Nat) (s : Bool) (m : Nat), r ≤ 6 → r < u → m + r ≤ 6 → b_MD_order_63 kx u z (nI p) (nI n) (nI i) (lw i) (bi s) (nI m) (x8_ r) = kx (nI p) (nI n) (nI i) (bi (mo T p n ((nmP i).drop (6 - r)) s m).1) (nI (mo T p n ((nmP i).drop (6 - r)) s m).2) := by
  intro r
  induction r with
  | zero =>
    intro u s m h1 h2 h3
    obtain ⟨u, rfl⟩ : ∃ m, u = m + 1 := ⟨u - 1, by omega⟩
    rw [b_MD_order_63, if_pos x8_z, List.drop_eq_nil_of_le (by rw [nmP_l i hi]; omega)]
    rfl
  | succ r ih =>
    intro u s m h1 h2 h3
    obtain ⟨u, rfl⟩ : ∃ m, u = m + 1 := ⟨u - 1, by omega⟩
    obtain ⟨x1, x2⟩ := x8_n r (by omega)
    have hc := nmP_c i hi r (by omega)
    have hlt : 6 - (r + 1) < (nmP i).length := by rw [nmP_l i hi]; omega
    have hd : (nmP i).drop (6 - (r + 1)) = (nmP i).getD (5 - r) 0 :: (nmP i).drop (6 - r) := by
      rw [List.drop_eq_getElem_cons hlt, show 6 - (r + 1) + 1 = 6 - r by omega]
      congr 1
      rw [List.getD_eq_getElem?_getD, show 5 - r = 6 - (r + 1) by omega, List.getElem?_eq_getElem hlt]
      rfl
    rw [hd]
    rw [b_MD_order_63, if_neg x2, lw_b i hi r (by omega), x1, nI_1]
    generalize (nmP i).getD (5 - r) 0 = c at *
    unfold mo
    cases s with
    | false => rw [if_pos rfl, if_pos bi_f]
    | true =>
      rw [if_neg bi_t, if_neg (show ¬ true = false by decide), ic (nIe_0 (by omega)), ic (nI_leI (by omega) (by omega))]
      by_cases c0 : c = 0
      · rw [if_pos c0, if_pos c0]
        exact ih u true m (by omega) (by omega) (by omega)
      · rw [if_neg c0, if_neg c0]
        by_cases hm : n ≤ m
        · rw [if_pos hm, if_pos hm]
          exact ih u false (m + 1) (by omega) (by omega) (by omega)
        · rw [if_neg hm, if_neg hm, nI_add, if_pos ((ck_nI (by omega)).mpr (by omega)), nI_clamp (by omega), hz (p + m) (by omega), ic (sxb_eq (hT (p + m)) hc)]
          by_cases y : T (p + m) = c
          · rw [if_pos y, decide_eq_true y]
            exact ih u true (m + 1) (by omega) (by omega) (by omega)
          · rw [if_neg y, decide_eq_false y]
            exact ih u false (m + 1) (by omega) (by omega) (by omega)
theorem mo_f {p n : Nat} : ∀ (l : List Nat) (m : Nat), (mo T p n l false m).1 = false := by
  intro l m
  cases l with
  | nil => rfl
  | cons c l => unfold mo; rw [if_pos rfl]
theorem mo_t {p n : Nat} : ∀ (l : List Nat) (m : Nat), (∀ c ∈ l, c ≠ 0) → ((mo T p n l true m = (true, n)) ↔ n = m + l.length ∧ ∀ j, j < l.length → T (p + m + j) = l.getD j 0) := by
  intro l
  induction l with
  | nil =>
    intro m h
    unfold mo
    constructor
    · intro q; simp at q; exact ⟨by simp; omega, fun j hj => by simp at hj⟩
    · intro q; have := q.1; simp at this; rw [this]
  | cons c l ih =>
    intro m h
    have hc : c ≠ 0 := h c (by simp)
    unfold mo
    rw [if_neg (by decide), if_neg hc]
    by_cases hm : n ≤ m
    · rw [if_pos hm]
      constructor
      · intro q
        have := mo_f (T := T) (p := p) (n := n) l (m + 1)
        rw [q] at this; cases this
      · intro q; have := q.1; simp at this; omega
    · rw [if_neg hm]
      by_cases y : T (p + m) = c
      · rw [decide_eq_true y, ih (m + 1) (fun x hx => h x (by simp [hx]))]
        constructor
        · intro q
          refine ⟨by have := q.1; simp; omega, fun j hj => ?_⟩
          cases j with
          | zero => exact y
          | succ j =>
            have := q.2 j (by simp at hj; omega)
            rw [show p + m + (j + 1) = p + (m + 1) + j by omega, this]
            rfl
        · intro q
          refine ⟨by have := q.1; simp at this; omega, fun j hj => ?_⟩
          have := q.2 (j + 1) (by simp; omega)
          rw [show p + (m + 1) + j = p + m + (j + 1) by omega, this]
          rfl
      · rw [decide_eq_false y]
        constructor
        · intro q
          have := mo_f (T := T) (p := p) (n := n) l (m + 1)
          rw [q] at this; cases this
        · intro q
          have := q.2 0 (by simp)
          exact absurd this y
theorem mo_0 {p n : Nat} : ∀ (k : Nat) (l : List Nat) (m : Nat), mo T p n (List.replicate k 0 ++ l) true m = mo T p n l true m := by
  intro k
  induction k with
  | zero => intro l m; rfl
  | succ k ih =>
    intro l m
    show mo T p n (0 :: (List.replicate k 0 ++ l)) true m = _
    rw [mo, if_neg (by decide), if_pos rfl]
    exact ih l m
theorem nmB_0 : ∀ i, i < 28 → ∀ c ∈ nmB i, c ≠ 0 := by decide +kernel
theorem mo_is {p n i : Nat} (hi : i < 28) : mo T p n (nmP i) true 0 = (true, n) ↔ isN T p n i := by
  unfold nmP
  rw [mo_0, mo_t _ _ (nmB_0 i hi)]
  unfold isN
  constructor
  · intro q
    have e : n = (nmB i).length := by have := q.1; omega
    exact ⟨e, fun j hj => by have := q.2 j (by omega); rw [Nat.add_zero] at this; exact this⟩
  · intro q
    exact ⟨by have := q.1; omega, fun j hj => by rw [Nat.add_zero]; exact q.2 j (by have := q.1; omega)⟩
theorem m_o41 {p n : Nat} (hT : ∀ i, T i < 256) (hz : tp z T) (hp : p + n ≤ 3000) : ∀ (r i u : Nat), i + r = 28 → r < u → b_MD_order_41 u (nI (p + n)) z (nI p) (nI n) (nI i) = some (oI (scn (fun i => decide (¬ isN T p n i)) r i), nI (p + n)) := by
  intro r
  induction r with
  | zero =>
    intro i u h1 h2
    obtain ⟨u, rfl⟩ : ∃ m, u = m + 1 := ⟨u - 1, by omega⟩
    have e : i = 28 := by omega
    subst e
    rw [b_MD_order_41, if_pos (by decide)]
    rfl
  | succ r ih =>
    intro i u h1 h2
    obtain ⟨u, rfl⟩ : ∃ m, u = m + 1 := ⟨u - 1, by omega⟩
    have hi : i < 28 := by omega
    have L : ∀ (l : List Nat) (s : Bool) (m : Nat), (mo T p n l s m).2 ≤ m + l.length := by
      intro l
      induction l with
      | nil => intro s m; exact Nat.le_refl _
      | cons c l ih =>
        intro s m
        unfold mo
        have a1 := ih s m
        have a2 := ih false (m + 1)
        have a3 := ih (decide (T (p + m) = c)) (m + 1)
        have e : (c :: l).length = l.length + 1 := rfl
        repeat' split
        all_goals first | omega | (show m ≤ _; omega)
    have hm2 := L (nmP i) true 0
    rw [nmP_l i hi] at hm2
    have hmo := mo_is (T := T) (p := p) (n := n) hi
    rw [b_MD_order_41, if_neg (fun q => by have := (nIn_28 (by omega)).mp q; omega), lw_ok i hi, Option.bind_some]
    have e := m_o63 (z := z) (p := p) (n := n) (kx := fun x1_9 x2_9 x3_9 x6_9 x7_9 => (if x6_9 = (0 : Int32) then b_MD_order_41 u (nI (p + n)) z x1_9 x2_9 (x3_9 + 1) else (if x7_9 = x2_9 then (some (x3_9, (nI (p + n)))) else b_MD_order_41 u (nI (p + n)) z x1_9 x2_9 (x3_9 + 1)))) hT hz hi hp 6 65536 true 0 (by omega) (by omega) (by omega)
    rw [show bi true = (1 : Int32) from rfl, show nI 0 = (0 : Int32) from rfl, show x8_ 6 = (40 : Int32) by decide, show 6 - 6 = 0 from rfl, List.drop_zero] at e
    rw [e, nI_1]
    show _ = some (oI (if decide (¬ isN T p n i) = true then _ else _), _)
    generalize mo T p n (nmP i) true 0 = sm' at *
    obtain ⟨s, m⟩ := sm'
    have hm3 : m ≤ 6 := by have : m ≤ 0 + 6 := hm2; omega
    by_cases h : isN T p n i
    · have h2 := hmo.mpr h
      simp only [Prod.mk.injEq] at h2
      obtain ⟨rfl, rfl⟩ := h2
      have hd : decide (¬ isN T p m i) = false := decide_eq_false (fun y => y h)
      rw [hd]
      dsimp only
      rw [if_neg bi_t, if_pos rfl, if_neg (show ¬ false = true by decide)]
      unfold oI
      rw [if_neg (by omega)]
    · rw [if_pos (decide_eq_true h)]
      dsimp only
      rw [ih (i + 1) u (by omega) (by omega)]
      cases s with
      | false => rw [if_pos bi_f]
      | true =>
        rw [if_neg bi_t, if_neg]
        intro q
        apply h
        apply hmo.mp
        rw [(nI_eq (by omega) (by omega)).mp q]
theorem m_o5 {e p : Nat} (hT : ∀ i, T i < 256) (hz : tp z T) (he : e ≤ 3000) : ∀ (r q u : Nat), q + r = e → r < u → p ≤ q → b_MD_order_5 u (nI q) (nI e) z (nI p) = some (oI (p_ord T p (scn (fun q => grt (T q)) r q - p)), nI (scn (fun q => grt (T q)) r q)) := by
  have F : ∀ q, p ≤ q → q ≤ 3000 → b_MD_order_41 65536 (nI q) z (nI p) (nI q - nI p) 0 = some (oI (p_ord T p (q - p)), nI q) := by
    intro q h1 h2
    obtain ⟨n, rfl⟩ : ∃ n, q = p + n := ⟨q - p, by omega⟩
    have h := m_o41 (z := z) (p := p) (n := n) hT hz h2 28 0 65536 (by omega) (by omega)
    rw [show nI 0 = (0 : Int32) from rfl] at h
    rw [pk_sub (by omega), Nat.add_sub_cancel_left]
    exact h
  intro r
  induction r with
  | zero =>
    intro q u h1 h2 h3
    obtain ⟨u, rfl⟩ : ∃ m, u = m + 1 := ⟨u - 1, by omega⟩
    rw [b_MD_order_5, m_byte hT hz he (by omega), Option.bind_some, m_grH hT, Option.bind_some]
    have e1 : hc T e q = 0 := if_neg (by omega)
    rw [e1, if_pos (by decide)]
    exact F q h3 (by omega)
  | succ r ih =>
    intro q u h1 h2 h3
    obtain ⟨u, rfl⟩ : ∃ m, u = m + 1 := ⟨u - 1, by omega⟩
    rw [b_MD_order_5, m_byte hT hz he (by omega), Option.bind_some, m_grH hT, Option.bind_some]
    have e1 : hc T e q = T q := if_pos (by omega)
    rw [e1, nI_1]
    show _ = some (oI (p_ord T p ((if grt (T q) = true then _ else _) - p)), nI (if grt (T q) = true then _ else _))
    cases h : grt (T q) with
    | true =>
      rw [if_neg bi_t, if_pos rfl]
      exact ih (q + 1) u (by omega) (by omega) (by omega)
    | false =>
      rw [if_pos bi_f, if_neg (show ¬ false = true by decide)]
      exact F q h3 (by omega)
theorem m_order {e p : Nat} (hT : ∀ i, T i < 256) (hz : tp z T) (he : e ≤ 3000) (hp : p ≤ e) : f_MD_order (nI p) (nI e) z = some (oI (p_ord T p (up T e p - p)), nI (up T e p)) := m_o5 hT hz he (e - p) p 65536 (by omega) (by omega) (Nat.le_refl _)
theorem up_lim {e E p : Nat} (h : lnE T e E) (hp : p ≤ E) : up T e p = up T E p := scn_lim hp h.1 (by
  rcases h.2 with q | q | q
  · exact Or.inl q
  · exact Or.inr (by show grt (T E) = false; rw [q]; rfl)
  · exact Or.inr (by show grt (T E) = false; rw [q]; rfl))
end ASA
