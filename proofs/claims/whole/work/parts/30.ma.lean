/-! THE CLASS'S BARE MACHINE is the document's: its pure functions over numbers -/
section QMA
def nf (f : Nat → Nat) : Nat → Int32 := fun i => nI (f i)
theorem upd_nf (f : Nat → Nat) (k x : Nat) : upd (nf f) k (nI x) = nf (mu f k x) := by
  funext j
  by_cases h : j = k
  · subst h; rw [pk_us]; simp [nf, mu]
  · rw [pk_un h]; simp [nf, mu, h]
theorem nf_at (f : Nat → Nat) (i : Nat) : nf f i = nI (f i) := by
  have h : nf f i = nI (f i) := rfl
  exact h
theorem ic {α : Type} {c d : Prop} [Decidable c] [Decidable d] {a b : α} (h : c ↔ d) : (if c then a else b) = if d then a else b := by
  by_cases hd : d
  · rw [if_pos hd, if_pos (h.mpr hd)]
  · rw [if_neg hd, if_neg (fun q => hd (h.mp q))]
theorem ck_nI {n N : Nat} (h : n < 2 ^ 31) : ck (nI n) N ↔ n < N := by
  unfold ck
  rw [nI_clamp h]
  have := nI_pos h
  constructor
  · intro q; exact Nat.not_le.mp fun z => q (Or.inr z)
  · intro q z; rcases z with z | z
    · exact this z
    · omega
theorem nI_p2 (a : Nat) : nI a + 2 = nI (a + 2) := nI_add a 2
theorem nI_p3 (a : Nat) : nI a + 3 = nI (a + 3) := nI_add a 3
theorem nI_z {a : Nat} (h : a < 2 ^ 31) : nI a = (0 : Int32) ↔ a = 0 := nI_eq (b := 0) h (by decide)
theorem nI_o {a : Nat} (h : a < 2 ^ 31) : nI a = (1 : Int32) ↔ a = 1 := nI_eq (b := 1) h (by decide)
theorem q_keep {md ba bo p p2 : Nat} {mm : Nat → Nat} (hp : p + 3 < 1844) : f_MA_keepStatus (nI md) (nI ba) (nI bo) (nf mm) (nI p) (nI p2) = some (nf (mu (mu (mu (mu mm p md) (p + 1) p2) (p + 2) ba) (p + 3) bo)) := by
  unfold f_MA_keepStatus
  rw [nI_1, nI_p2, nI_p3, if_pos ((ck_nI (by omega)).mpr (by omega)), if_pos ((ck_nI (by omega)).mpr (by omega)), if_pos ((ck_nI (by omega)).mpr (by omega)), if_pos ((ck_nI (by omega)).mpr (by omega)), nI_clamp (by omega), nI_clamp (by omega), nI_clamp (by omega), nI_clamp (by omega), upd_nf, upd_nf, upd_nf, upd_nf]
/-- how far the good addresses reach, as the class keeps it -/
def rr (sz ba bo : Nat) : Int32 := if sz ≤ ba + bo then nI sz - nI ba else nI bo
theorem rr_lt {sz ba bo n : Nat} (hs : sz < 65536) (hb : ba < 65536) (ho : bo < 65536) (hn : n < 131072) : nI n < rr sz ba bo ↔ mc_gd sz ba bo n := by
  unfold rr mc_gd
  split
  · rw [Int32.lt_iff_toInt_lt, pk_sub_toInt (by omega) (by omega), nI_toInt (by omega)]
    omega
  · rw [nI_ltI (by omega) (by omega)]
    omega
theorem q_take {sz p : Nat} {mm : Nat → Nat} (hs : sz < 65536) (hm : ∀ i, mm i < 65536) (hp : p + 3 < 1844) : f_MA_takeStatus (nI sz) (nf mm) (nI p) = some (nI (if mm p = 0 then 0 else 1), nI (mm (p + 1)), nI (mm (p + 2)), nI (mm (p + 3)), rr sz (mm (p + 2)) (mm (p + 3))) := by
  have h2 := hm (p + 2)
  have h3 := hm (p + 3)
  have h0 := hm p
  have K : ∀ md : Nat, b_MA_takeStatus_18 (nI sz) (nI md) (nf mm) (nI p) = some (nI md, nI (mm (p + 1)), nI (mm (p + 2)), nI (mm (p + 3)), rr sz (mm (p + 2)) (mm (p + 3))) := by
    intro md
    unfold b_MA_takeStatus_18
    rw [nI_1, nI_p2, nI_p3, if_pos ((ck_nI (by omega)).mpr (by omega)), if_pos ((ck_nI (by omega)).mpr (by omega)), if_pos ((ck_nI (by omega)).mpr (by omega)), nI_clamp (by omega), nI_clamp (by omega), nI_clamp (by omega)]
    have hc : nI sz ≤ nf mm (p + 2) + nf mm (p + 3) ↔ sz ≤ mm (p + 2) + mm (p + 3) := by
      rw [nf_at, nf_at, nI_add]
      exact nI_leI (by omega) (by omega)
    rw [ic hc]
    unfold rr
    by_cases h : sz ≤ mm (p + 2) + mm (p + 3)
    · rw [if_pos h, if_pos h, nf_at, nf_at, nf_at]
    · rw [if_neg h, if_neg h, nf_at, nf_at, nf_at]
  unfold f_MA_takeStatus
  rw [if_pos ((ck_nI (by omega)).mpr (by omega)), nI_clamp (by omega), nf_at]
  by_cases h : mm p = 0
  · rw [if_pos ((nI_z (by omega)).mpr h), if_pos h]
    exact K 0
  · rw [if_neg (fun q => h ((nI_z (by omega)).mp q)), if_neg h]
    exact K 1
theorem tm_lt {mm : Nat → Nat} {c i k md ba bo : Nat} (hm : ∀ i, mm i < 65536) (hc : c < 65536) (hi : i < 65536) (hk : k < 65536) (hd : md < 65536) (hb : ba < 65536) (ho : bo < 65536) : ∀ j, mc_tm mm c i k md ba bo j < 65536 := by
  intro j
  have := hm j
  unfold mc_tm mu
  repeat' split
  all_goals assumption
theorem q_trap {sz md ba bo c i k : Nat} {mm : Nat → Nat} (hs : sz < 65536) (hm : ∀ i, mm i < 65536) (hc : c < 65536) (hi : i < 65536) (hk : k < 65536) (hd : md < 65536) (hb : ba < 65536) (ho : bo < 65536) : f_MA_trap (nI sz) (nI md) (nI ba) (nI bo) (nf mm) (nI c) (nI i) (nI k) = some (nI (if mc_tm mm c i k md ba bo 4 = 0 then 0 else 1), nI (mc_tm mm c i k md ba bo 5), nI (mc_tm mm c i k md ba bo 6), nI (mc_tm mm c i k md ba bo 7), rr sz (mc_tm mm c i k md ba bo 6) (mc_tm mm c i k md ba bo 7), nf (mc_tm mm c i k md ba bo)) := by
  unfold f_MA_trap
  have e0 : f_MA_keepStatus (nI md) (nI ba) (nI bo) (nf mm) 0 (nI k) = some (nf (mu (mu (mu (mu mm 0 md) 1 k) 2 ba) 3 bo)) := q_keep (p := 0) (by omega)
  rw [e0]
  have e8 : (8 : Int32).toNatClampNeg = 8 := by decide
  have e9 : (9 : Int32).toNatClampNeg = 9 := by decide
  simp only [Option.bind_some, e8, e9, upd_nf]
  have e1 : f_MA_takeStatus (nI sz) (nf (mc_tm mm c i k md ba bo)) 4 = _ := q_take (p := 4) hs (tm_lt hm hc hi hk hd hb ho) (by omega)
  show ((f_MA_takeStatus (nI sz) (nf (mc_tm mm c i k md ba bo)) 4).bind _) = _
  rw [e1]
  rfl
theorem q_goOn {md ti nx : Nat} {ro : Int32} (hd : md < 65536) (ht : ti < 65536) : f_MA_goOn (nI md) (nI ti) ro (nI nx) = some (nI nx, (if md = 1 ∧ 0 < ti then nI (ti - 1) else nI ti), (if md = 1 ∧ 0 < ti then (if ti = 1 then 1 else 0) else ro)) := by
  unfold f_MA_goOn
  by_cases h : md = 1
  · rw [if_pos ((nI_o (by omega)).mpr h)]
    by_cases h2 : 0 < ti
    · have e1 : nI ti - 1 = nI (ti - 1) := by
        have := nI_pred (ti - 1)
        rw [show ti - 1 + 1 = ti by omega] at this
        exact this
      have hc : md = 1 ∧ 0 < ti := ⟨h, h2⟩
      have hd : nI (ti - 1) = (0 : Int32) ↔ ti = 1 := by
        rw [nI_z (by omega)]
        omega
      rw [if_neg (nI_nle h2 (by omega)), if_pos hc, if_pos hc]
      simp only [e1]
      rw [ic hd]
      by_cases h3 : ti = 1
      · rw [if_pos h3, if_pos h3]
      · rw [if_neg h3, if_neg h3]
    · have h0 : ti = 0 := by omega
      have hc : ¬ (md = 1 ∧ 0 < ti) := fun q => h2 q.2
      rw [if_neg hc, if_neg hc, h0, if_pos (by decide)]
  · have hc : ¬ (md = 1 ∧ 0 < ti) := fun q => h q.1
    rw [if_neg (fun q => h ((nI_o (by omega)).mp q)), if_neg hc, if_neg hc]
end QMA
