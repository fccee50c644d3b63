section QMB
def bi (b : Bool) : Int32 := if b then 1 else 0
def cvA (S : Nat) (s : mc_S) : Int32 × Int32 × Int32 × Int32 × Int32 × Int32 × Int32 × (Nat → Int32) × (Nat → Int32) := match s with
  | (md, pc, ba, bo, ti, ro, _, rg, mm, _, _) => (nI md, nI pc, nI ba, nI bo, rr S ba bo, nI ti, bi ro, nf mm, nf rg)
def cvC (s : mc_S) : Int32 × Int32 × Int32 × (Nat → Int32) := match s with
  | (_, pc, _, _, ti, ro, _, rg, _, _, _) => (nI pc, nI ti, bi ro, nf rg)
theorem q_go {md ti nx ba bo : Nat} {ro : Bool} {rg mm dk : Nat → Nat} {cs : mc_K} (hd : md < 65536) (ht : ti < 65536) : f_MA_goOn (nI md) (nI ti) (bi ro) (nI nx) = some (nI nx, nI (mc_go nx md ba bo ti ro rg mm dk cs).2.2.2.2.1, bi (mc_go nx md ba bo ti ro rg mm dk cs).2.2.2.2.2.1) := by
  rw [q_goOn hd ht]
  unfold mc_go
  by_cases hc : md = 1 ∧ 0 < ti
  · rw [if_pos hc, if_pos hc, if_pos hc]
    by_cases h1 : ti = 1
    · simp [h1, bi]
    · simp [h1, bi]
  · rw [if_neg hc, if_neg hc, if_neg hc]
theorem cvA_go {S nx md ba bo ti : Nat} {ro : Bool} {rg mm dk : Nat → Nat} {cs : mc_K} : cvA S (mc_go nx md ba bo ti ro rg mm dk cs) = (nI md, nI nx, nI ba, nI bo, rr S ba bo, nI (mc_go nx md ba bo ti ro rg mm dk cs).2.2.2.2.1, bi (mc_go nx md ba bo ti ro rg mm dk cs).2.2.2.2.2.1, nf mm, nf rg) := by
  unfold mc_go
  split <;> rfl
theorem cvC_go {nx md ba bo ti : Nat} {ro : Bool} {rg mm dk : Nat → Nat} {cs : mc_K} : cvC (mc_go nx md ba bo ti ro rg mm dk cs) = (nI nx, nI (mc_go nx md ba bo ti ro rg mm dk cs).2.2.2.2.1, bi (mc_go nx md ba bo ti ro rg mm dk cs).2.2.2.2.2.1, nf rg) := by
  unfold mc_go
  split <;> rfl
theorem go_ti {nx md ba bo ti : Nat} {ro : Bool} {rg mm dk rg' mm' : Nat → Nat} {cs : mc_K} : (mc_go nx md ba bo ti ro rg mm dk cs).2.2.2.2.1 = (mc_go nx md ba bo ti ro rg' mm' dk cs).2.2.2.2.1 ∧ (mc_go nx md ba bo ti ro rg mm dk cs).2.2.2.2.2.1 = (mc_go nx md ba bo ti ro rg' mm' dk cs).2.2.2.2.2.1 := by
  unfold mc_go
  split <;> exact ⟨rfl, rfl⟩
theorem q_access {S md pc ba bo ti op a ad : Nat} {ro : Bool} {rg mm dk : Nat → Nat} {cs : mc_K} (hS : S ≤ 1844) (hd : md < 65536) (hp : pc < 65536) (hb : ba < 65536) (ho : bo < 65536) (ht : ti < 65536) (hm : ∀ i, mm i < 65536) (hop : 2 ≤ op ∧ op ≤ 5) (ha : a < 8) (had : ad < 65536) : f_MA_access (nI S) (nI md) (nI pc) (nI ba) (nI bo) (rr S ba bo) (nI ti) (bi ro) (nf mm) (nf rg) (nI op) (nI a) (nI ad) = some (cvA S (if mc_gd S ba bo ad then (if op = 2 ∨ op = 4 then mc_go (pc + 2) md ba bo ti ro (mu rg a (mm (ba + ad))) mm dk cs else mc_go (pc + 2) md ba bo ti ro rg (mu mm (ba + ad) (rg a)) dk cs) else mc_trap 2 ad pc md ba bo ti ro rg mm dk cs)) := by
  unfold f_MA_access
  rw [ic (rr_lt (by omega) hb ho (by omega))]
  by_cases hg : mc_gd S ba bo ad
  · rw [if_pos hg, if_pos hg]
    have hg2 := hg.2
    have K : b_MA_access_29 (nI md) (nI pc) (nI ba) (nI bo) (rr S ba bo) (nI ti) (bi ro) (nf mm) (nf rg) (nI a) (nI ad) = some (cvA S (mc_go (pc + 2) md ba bo ti ro (mu rg a (mm (ba + ad))) mm dk cs)) := by
      unfold b_MA_access_29
      rw [nI_add, nI_p2, if_pos ((ck_nI (by omega)).mpr (by omega)), if_pos ((ck_nI (by omega)).mpr (by omega)), nI_clamp (by omega), nI_clamp (by omega), nf_at, upd_nf, q_go (ba := ba) (bo := bo) (rg := mu rg a (mm (ba + ad))) (mm := mm) (dk := dk) (cs := cs) hd ht, cvA_go]
      rfl
    by_cases h2 : op = 2
    · rw [if_pos ((nIe_2 (by omega)).mpr h2), if_pos (Or.inl h2)]
      exact K
    · rw [if_neg (fun q => h2 ((nIe_2 (by omega)).mp q))]
      by_cases h4 : op = 4
      · rw [if_pos ((nIe_4 (by omega)).mpr h4), if_pos (Or.inr h4)]
        exact K
      · rw [if_neg (fun q => h4 ((nIe_4 (by omega)).mp q)), if_neg (show ¬ (op = 2 ∨ op = 4) by omega), nI_add, nI_p2, if_pos ((ck_nI (by omega)).mpr (by omega)), if_pos ((ck_nI (by omega)).mpr (by omega)), nI_clamp (by omega), nI_clamp (by omega), nf_at, upd_nf, q_go (ba := ba) (bo := bo) (rg := rg) (mm := mu mm (ba + ad) (rg a)) (dk := dk) (cs := cs) hd ht, cvA_go]
        rfl
  · rw [if_neg hg, if_neg hg]
    have e := q_trap (sz := S) (c := 2) (i := ad) (k := pc) (by omega) hm (by omega) had hp hd hb ho
    rw [show (2 : Int32) = nI 2 from rfl, e]
    rfl
theorem q_m16 (n : Nat) (h : n < 2 ^ 32) : nI n &&& 65535 = nI (n % 65536) := pk_andN h 16 (by decide)
theorem q_sub16 {x y : Nat} (hx : x < 65536) (hy : y < 65536) : (nI x - nI y) &&& 65535 = nI ((x + 65536 - y) % 65536) := by
  rw [pk_and (nI x - nI y) 16 (by decide)]
  congr 1
  have e : (nI x - nI y).toBitVec = (nI x).toBitVec - (nI y).toBitVec := rfl
  rw [e, BitVec.toNat_sub, pk_tn (by omega), pk_tn (by omega)]
  omega
theorem q_and (x y : Nat) : nI x &&& nI y = nI (x &&& y) := by
  apply Int32.toBitVec_inj.mp
  show (nI x).toBitVec &&& (nI y).toBitVec = (nI (x &&& y)).toBitVec
  show BitVec.ofNat 32 x &&& BitVec.ofNat 32 y = BitVec.ofNat 32 (x &&& y)
  rw [BitVec.ofNat_and]
theorem q_sh {x n : Nat} (hx : x < 65536) (hn : n < 65536) : f_MA_shifted (nI x) (nI n) = some (nI (mc_sh x n)) := by
  unfold f_MA_shifted mc_sh
  have e16 : nI n &&& 16 = nI (n &&& 16) := q_and n 16
  have e15 : nI n &&& 15 = nI (n % 16) := pk_andN (by omega) 4 (by decide)
  have e31 : nI (n % 16) &&& 31 = nI (n % 16) := by
    have := pk_andN (n := n % 16) (m := 31) (by omega) 5 (by decide)
    rw [this, Nat.mod_eq_of_lt (by omega)]
  have hz : nI n &&& 16 = (0 : Int32) ↔ n / 16 % 2 = 0 := by
    rw [e16, nIe_0 (by have := Nat.and_le_right (n := n) (m := 16); omega)]
    have h1 : n &&& 16 = 0 ↔ n.testBit 4 = false := by
      constructor
      · intro q
        have h2 := congrArg (fun z => Nat.testBit z 4) q
        simp only [Nat.testBit_and, Nat.zero_testBit] at h2
        rw [show (16 : Nat) = 2 ^ 4 from rfl, Nat.testBit_two_pow] at h2
        simpa using h2
      · intro q
        apply Nat.eq_of_testBit_eq
        intro i
        rw [Nat.testBit_and, Nat.zero_testBit, show (16 : Nat) = 2 ^ 4 from rfl, Nat.testBit_two_pow]
        by_cases hi : 4 = i
        · subst hi; simp [q]
        · simp [hi]
    rw [h1, Nat.testBit_eq_decide_div_mod_eq]
    simp only [Nat.reducePow, decide_eq_false_iff_not]
    omega
  rw [ic hz, e15, e31]
  have hlt : n % 16 < 16 := Nat.mod_lt _ (by decide)
  have hsm : ((nI (n % 16)).toBitVec.smod 32).toNat = n % 16 := by
    generalize n % 16 = k at hlt
    match k, hlt with
    | 0, _ => decide
    | 1, _ => decide
    | 2, _ => decide
    | 3, _ => decide
    | 4, _ => decide
    | 5, _ => decide
    | 6, _ => decide
    | 7, _ => decide
    | 8, _ => decide
    | 9, _ => decide
    | 10, _ => decide
    | 11, _ => decide
    | 12, _ => decide
    | 13, _ => decide
    | 14, _ => decide
    | 15, _ => decide
    | k + 16, h => omega
  have hpw : 2 ^ (n % 16) ≤ 32768 := by
    have : 2 ^ (n % 16) ≤ 2 ^ 15 := Nat.pow_le_pow_right (by decide) (by omega)
    exact this
  by_cases h : n / 16 % 2 = 0
  · rw [if_pos h, if_pos h]
    have hb : x * 2 ^ (n % 16) < 2 ^ 32 := by
      calc x * 2 ^ (n % 16) ≤ x * 32768 := Nat.mul_le_mul_left _ hpw
        _ < 2 ^ 32 := by omega
    rw [pk_shlN _ _ hsm hb, q_m16 _ hb]
  · rw [if_neg h, if_neg h, pk_shrN (by omega) _ _ hsm]
end QMB
