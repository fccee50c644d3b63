section QMD
theorem q_fbl {S ba bo ad ct t : Nat} (hS : S < 65536) (hb : ba < 65536) (ho : bo < 65536) (hct : ct ≤ 16) (had : ad < 65536) (ht : t ≤ ct) (h1 : ∀ i, i < t → mc_gd S ba bo (ad + i)) (h2 : t < ct → ¬ mc_gd S ba bo (ad + t) ∧ ad + t < 65536) : ∀ (k j fuel : Nat), t - j = k → j ≤ t → k < fuel → b_MA_firstBad_2 fuel (rr S ba bo) (nI ad) (nI ct) (nI j) = some (if t = ct then (-1) else nI (ad + t)) := by
  intro k
  induction k with
  | zero =>
    intro j fuel hk hj hf
    obtain ⟨f, rfl⟩ : ∃ f, fuel = f + 1 := ⟨fuel - 1, by omega⟩
    have e : j = t := by omega
    subst e
    rw [b_MA_firstBad_2, ic (nI_leI (by omega) (by omega))]
    by_cases h : j = ct
    · rw [if_pos (show ct ≤ j by omega), if_pos h]
    · obtain ⟨h3, h4⟩ := h2 (by omega)
      have e1 : (nI ad + nI j) &&& 65535 = nI (ad + j) := by
        rw [nI_add, q_m16 _ (by omega), Nat.mod_eq_of_lt h4]
      rw [if_neg (show ¬ ct ≤ j by omega), if_neg h]
      simp only [e1]
      rw [ic (rr_lt hS hb ho (by omega)), if_neg h3]
  | succ k ih =>
    intro j fuel hk hj hf
    obtain ⟨f, rfl⟩ : ∃ f, fuel = f + 1 := ⟨fuel - 1, by omega⟩
    have h3 := h1 j (by omega)
    have h4 := h3.1
    have e1 : (nI ad + nI j) &&& 65535 = nI (ad + j) := by
      rw [nI_add, q_m16 _ (by omega), Nat.mod_eq_of_lt (by omega)]
    rw [b_MA_firstBad_2, ic (nI_leI (by omega) (by omega)), if_neg (show ¬ ct ≤ j by omega)]
    simp only [e1]
    rw [ic (rr_lt hS hb ho (by omega)), if_pos h3, nI_1]
    exact ih (j + 1) f (by omega) (by omega) (by omega)
/-- the first address wanted that is not good -/
theorem q_fb {S ba bo ad ct : Nat} (hS : S < 65536) (hb : ba < 65536) (ho : bo < 65536) (hct : ct ≤ 16) (had : ad < 65536) : f_MA_firstBad (rr S ba bo) (nI ad) (nI ct) = some (if 0 < ct ∧ ¬ mc_gd S ba bo ad then nI ad else if 0 < ct ∧ ¬ mc_gd S ba bo (ad + ct - 1) then nI (mc_rc S ba bo) else (-1)) := by
  unfold f_MA_firstBad
  by_cases c0 : ct = 0
  · subst c0
    have e := q_fbl (S := S) (ba := ba) (bo := bo) (ad := ad) (ct := 0) (t := 0) hS hb ho (by omega) had (by omega) (fun i h => by omega) (fun h => by omega) 0 0 65536 rfl (by omega) (by omega)
    rw [if_neg (by omega), if_neg (by omega)]
    exact e
  · by_cases g0 : mc_gd S ba bo ad
    · rw [if_neg (show ¬ (0 < ct ∧ ¬ mc_gd S ba bo ad) from fun q => q.2 g0)]
      by_cases g1 : mc_gd S ba bo (ad + ct - 1)
      · rw [if_neg (show ¬ (0 < ct ∧ ¬ mc_gd S ba bo (ad + ct - 1)) from fun q => q.2 g1)]
        have e := q_fbl (S := S) (ba := ba) (bo := bo) (ad := ad) (ct := ct) (t := ct) hS hb ho hct had (by omega) (fun i h => by unfold mc_gd at *; omega) (fun h => by omega) ct 0 65536 rfl (by omega) (by omega)
        rw [if_pos rfl] at e
        exact e
      · rw [if_pos (show 0 < ct ∧ ¬ mc_gd S ba bo (ad + ct - 1) from ⟨by omega, g1⟩)]
        have hrc : ad < mc_rc S ba bo ∧ mc_rc S ba bo ≤ ad + ct - 1 ∧ mc_rc S ba bo < 65536 := by
          unfold mc_rc mc_gd at *
          split <;> omega
        have hgd : ∀ n, mc_gd S ba bo n ↔ n < mc_rc S ba bo := by
          intro n
          unfold mc_rc mc_gd
          split <;> omega
        have e := q_fbl (S := S) (ba := ba) (bo := bo) (ad := ad) (ct := ct) (t := mc_rc S ba bo - ad) hS hb ho hct had (by omega) (fun i h => by rw [hgd]; omega) (fun h => ⟨by rw [hgd]; omega, by omega⟩) (mc_rc S ba bo - ad) 0 65536 rfl (by omega) (by omega)
        rw [if_neg (by omega), show ad + (mc_rc S ba bo - ad) = mc_rc S ba bo by omega] at e
        exact e
    · rw [if_pos (show 0 < ct ∧ ¬ mc_gd S ba bo ad from ⟨by omega, g0⟩)]
      have e := q_fbl (S := S) (ba := ba) (bo := bo) (ad := ad) (ct := ct) (t := 0) hS hb ho hct had (by omega) (fun i h => by omega) (fun h => ⟨g0, had⟩) 0 0 65536 rfl (by omega) (by omega)
      rw [if_neg (by omega)] at e
      exact e
theorem q_ww {op : Nat} (h : op ≤ 24) : f_MA_wordsWanted (nI op) = some (nI (mc_ct op)) := by
  have K : ∀ op, op < 25 → f_MA_wordsWanted (nI op) = some (nI (mc_ct op)) := by decide +kernel
  exact K op (by omega)
/-- the class's console and the document's -/
def KR (kold kwai ksnt : Int32) (ktyp ksen : Nat → Int32) (cs : mc_K) : Prop := ∃ o : Nat, o < 100 ∧ kold = nI o ∧ cs.1.length ≤ 100 ∧ kwai = nI cs.1.length ∧ ksnt = nI cs.2.2 ∧ ksen = nf cs.2.1 ∧ (∀ b ∈ cs.1, b < 256) ∧ ∀ j, j < cs.1.length → ktyp ((o + j) % 100) = nI (cs.1.getD j 0)
theorem q_next {kold kwai ksnt : Int32} {ktyp ksen : Nat → Int32} {cs : mc_K} (h : KR kold kwai ksnt ktyp ksen cs) : ∃ kold' kwai', f_CO_nextTyped kold kwai ktyp = some (nI (mc_in cs).1, kold', kwai') ∧ KR kold' kwai' ksnt ktyp ksen (mc_in cs).2 ∧ (mc_in cs).1 < 65536 := by
  obtain ⟨o, ho, rfl, hw, rfl, rfl, rfl, hb, ht⟩ := h
  obtain ⟨ty, sf, n⟩ := cs
  unfold f_CO_nextTyped
  cases ty with
  | nil =>
    refine ⟨nI o, nI 0, ?_, ⟨o, ho, rfl, by simp [mc_in], rfl, rfl, rfl, by simp [mc_in], by simp [mc_in]⟩, by simp [mc_in]⟩
    exact (if_pos (show nI (([] : List Nat), sf, n).1.length = (0 : Int32) from rfl)).trans rfl
  | cons b t =>
    simp only [List.length_cons] at hw ht ⊢
    have e0 : (nI o).toNatClampNeg = o := nI_clamp (by omega)
    have h0 := ht 0 (by omega)
    rw [Nat.add_zero, Nat.mod_eq_of_lt ho] at h0
    have e1 : (nI o + 1) - (nI o + 1) / 100 * 100 = nI ((o + 1) % 100) := by
      rw [nI_1]
      exact pk_rem (a := o + 1) (d := 100) (by omega) (by omega) (by omega)
    refine ⟨nI ((o + 1) % 100), nI t.length, ?_, ⟨(o + 1) % 100, Nat.mod_lt _ (by omega), rfl, by simp [mc_in]; omega, rfl, rfl, rfl, fun x hx => hb x (List.mem_cons_of_mem _ hx), ?_⟩, ?_⟩
    · rw [if_neg (fun q => by have := (nIe_0 (by omega)).mp q; omega), if_pos ((ck_nI (by omega)).mpr ho), e1, e0, h0, nI_pred]
      rfl
    · intro j hj
      have hj2 : j < t.length := hj
      have h3 := ht (j + 1) (by omega)
      rw [show (o + (j + 1)) % 100 = ((o + 1) % 100 + j) % 100 by omega] at h3
      rw [h3]
      rfl
    · have := hb b List.mem_cons_self
      show b < 65536
      omega
theorem q_send {kold kwai ksnt : Int32} {ktyp ksen : Nat → Int32} {cs : mc_K} {b : Nat} (hn : cs.2.2 < 2 ^ 30) (h : KR kold kwai ksnt ktyp ksen cs) : ∃ ksnt' ksen', f_CO_send ksnt ksen (nI b) = some (ksnt', ksen') ∧ KR kold kwai ksnt' ktyp ksen' (mc_out cs b) := by
  obtain ⟨o, ho, rfl, hw, rfl, rfl, rfl, hb, ht⟩ := h
  obtain ⟨ty, sf, n⟩ := cs
  unfold f_CO_send mc_out
  simp only at hn hw ht hb ⊢
  refine ⟨nI (n + 1), nf (if n < 500 then mu sf n b else sf), ?_, ⟨o, ho, rfl, hw, rfl, rfl, rfl, hb, ht⟩⟩
  by_cases h5 : n < 500
  · rw [if_pos h5]
    rw [if_neg (fun q => by have := (nIl_0 (by omega)).mp q; omega), if_neg (fun q => by have := (nIn_500 (by omega)).mp q; omega), if_pos ((ck_nI (by omega)).mpr h5), nI_clamp (by omega), upd_nf, nI_1]
  · rw [if_neg h5, if_neg (fun q => by have := (nIl_0 (by omega)).mp q; omega), if_pos ((nIn_500 (by omega)).mpr (by omega)), nI_1]
end QMD
