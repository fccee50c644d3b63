section QMC
theorem q_K {md ti nx ba bo : Nat} {ro : Bool} {rg' mm dk : Nat → Nat} {cs : mc_K} (hd : md < 65536) (ht : ti < 65536) : ((f_MA_goOn (nI md) (nI ti) (bi ro) (nI nx)).bind fun (x : Int32 × Int32 × Int32) => match x with | (a, b, c) => some (a, b, c, nf rg')) = some (cvC (mc_go nx md ba bo ti ro rg' mm dk cs)) := by
  rw [q_go (ba := ba) (bo := bo) (rg := rg') (mm := mm) (dk := dk) (cs := cs) hd ht, cvC_go]
  rfl
theorem q_comp1 {md pc ba bo ti a b n : Nat} {ro : Bool} {rg mm dk : Nat → Nat} {cs : mc_K} (hd : md < 65536) (hp : pc < 65536) (ht : ti < 65536) (hr : ∀ i, rg i < 65536) (ha : a < 8) (hb : b < 8) (hn : n < 65536) : f_MA_compute (nI md) (nI pc) (nI ti) (bi ro) (nf rg) (nI 1) (nI a) (nI b) (nI n) = some (cvC (mc_go (mc_alu 1 a b n pc rg).1 md ba bo ti ro (mc_alu 1 a b n pc rg).2 mm dk cs)) := by
  have hca : ck (nI a) 8 := (ck_nI (by omega)).mpr ha
  have hcb : ck (nI b) 8 := (ck_nI (by omega)).mpr hb
  have ea : (nI a).toNatClampNeg = a := nI_clamp (by omega)
  have eb : (nI b).toNatClampNeg = b := nI_clamp (by omega)
  have h1 := hr a
  have h2 := hr b
  unfold f_MA_compute
  rw [if_pos (show nI 1 = (1 : Int32) by decide)]
  simp only [if_pos hca, ea, nI_p2, upd_nf]
  exact q_K hd ht
theorem q_comp6 {md pc ba bo ti a b n : Nat} {ro : Bool} {rg mm dk : Nat → Nat} {cs : mc_K} (hd : md < 65536) (hp : pc < 65536) (ht : ti < 65536) (hr : ∀ i, rg i < 65536) (ha : a < 8) (hb : b < 8) (hn : n < 65536) : f_MA_compute (nI md) (nI pc) (nI ti) (bi ro) (nf rg) (nI 6) (nI a) (nI b) (nI n) = some (cvC (mc_go (mc_alu 6 a b n pc rg).1 md ba bo ti ro (mc_alu 6 a b n pc rg).2 mm dk cs)) := by
  have hca : ck (nI a) 8 := (ck_nI (by omega)).mpr ha
  have hcb : ck (nI b) 8 := (ck_nI (by omega)).mpr hb
  have ea : (nI a).toNatClampNeg = a := nI_clamp (by omega)
  have eb : (nI b).toNatClampNeg = b := nI_clamp (by omega)
  have h1 := hr a
  have h2 := hr b
  unfold f_MA_compute
  rw [if_neg (show ¬ nI 6 = (1 : Int32) by decide), if_pos (show nI 6 = (6 : Int32) by decide)]
  simp only [if_pos hca, if_pos hcb, ea, eb, nf_at, nI_p2, upd_nf]
  exact q_K hd ht
theorem q_comp7 {md pc ba bo ti a b n : Nat} {ro : Bool} {rg mm dk : Nat → Nat} {cs : mc_K} (hd : md < 65536) (hp : pc < 65536) (ht : ti < 65536) (hr : ∀ i, rg i < 65536) (ha : a < 8) (hb : b < 8) (hn : n < 65536) : f_MA_compute (nI md) (nI pc) (nI ti) (bi ro) (nf rg) (nI 7) (nI a) (nI b) (nI n) = some (cvC (mc_go (mc_alu 7 a b n pc rg).1 md ba bo ti ro (mc_alu 7 a b n pc rg).2 mm dk cs)) := by
  have hca : ck (nI a) 8 := (ck_nI (by omega)).mpr ha
  have hcb : ck (nI b) 8 := (ck_nI (by omega)).mpr hb
  have ea : (nI a).toNatClampNeg = a := nI_clamp (by omega)
  have eb : (nI b).toNatClampNeg = b := nI_clamp (by omega)
  have h1 := hr a
  have h2 := hr b
  unfold f_MA_compute
  rw [if_neg (show ¬ nI 7 = (1 : Int32) by decide), if_neg (show ¬ nI 7 = (6 : Int32) by decide), if_pos (show nI 7 = (7 : Int32) by decide)]
  simp only [if_pos hca, if_pos hcb, ea, eb, nf_at, nI_add, q_m16 (rg a + rg b) (by omega), nI_p2, upd_nf]
  exact q_K hd ht
theorem q_comp8 {md pc ba bo ti a b n : Nat} {ro : Bool} {rg mm dk : Nat → Nat} {cs : mc_K} (hd : md < 65536) (hp : pc < 65536) (ht : ti < 65536) (hr : ∀ i, rg i < 65536) (ha : a < 8) (hb : b < 8) (hn : n < 65536) : f_MA_compute (nI md) (nI pc) (nI ti) (bi ro) (nf rg) (nI 8) (nI a) (nI b) (nI n) = some (cvC (mc_go (mc_alu 8 a b n pc rg).1 md ba bo ti ro (mc_alu 8 a b n pc rg).2 mm dk cs)) := by
  have hca : ck (nI a) 8 := (ck_nI (by omega)).mpr ha
  have hcb : ck (nI b) 8 := (ck_nI (by omega)).mpr hb
  have ea : (nI a).toNatClampNeg = a := nI_clamp (by omega)
  have eb : (nI b).toNatClampNeg = b := nI_clamp (by omega)
  have h1 := hr a
  have h2 := hr b
  unfold f_MA_compute
  rw [if_neg (show ¬ nI 8 = (1 : Int32) by decide), if_neg (show ¬ nI 8 = (6 : Int32) by decide), if_neg (show ¬ nI 8 = (7 : Int32) by decide), if_pos (show nI 8 = (8 : Int32) by decide)]
  simp only [if_pos hca, if_pos hcb, ea, eb, nf_at, q_sub16 h1 h2, nI_p2, upd_nf]
  exact q_K hd ht
theorem q_comp9 {md pc ba bo ti a b n : Nat} {ro : Bool} {rg mm dk : Nat → Nat} {cs : mc_K} (hd : md < 65536) (hp : pc < 65536) (ht : ti < 65536) (hr : ∀ i, rg i < 65536) (ha : a < 8) (hb : b < 8) (hn : n < 65536) : f_MA_compute (nI md) (nI pc) (nI ti) (bi ro) (nf rg) (nI 9) (nI a) (nI b) (nI n) = some (cvC (mc_go (mc_alu 9 a b n pc rg).1 md ba bo ti ro (mc_alu 9 a b n pc rg).2 mm dk cs)) := by
  have hca : ck (nI a) 8 := (ck_nI (by omega)).mpr ha
  have hcb : ck (nI b) 8 := (ck_nI (by omega)).mpr hb
  have ea : (nI a).toNatClampNeg = a := nI_clamp (by omega)
  have eb : (nI b).toNatClampNeg = b := nI_clamp (by omega)
  have h1 := hr a
  have h2 := hr b
  unfold f_MA_compute
  rw [if_neg (show ¬ nI 9 = (1 : Int32) by decide), if_neg (show ¬ nI 9 = (6 : Int32) by decide), if_neg (show ¬ nI 9 = (7 : Int32) by decide), if_neg (show ¬ nI 9 = (8 : Int32) by decide), if_pos (show nI 9 = (9 : Int32) by decide)]
  simp only [if_pos hca, if_pos hcb, ea, eb, nf_at, q_and, nI_p2, upd_nf]
  exact q_K hd ht
theorem q_comp10 {md pc ba bo ti a b n : Nat} {ro : Bool} {rg mm dk : Nat → Nat} {cs : mc_K} (hd : md < 65536) (hp : pc < 65536) (ht : ti < 65536) (hr : ∀ i, rg i < 65536) (ha : a < 8) (hb : b < 8) (hn : n < 65536) : f_MA_compute (nI md) (nI pc) (nI ti) (bi ro) (nf rg) (nI 10) (nI a) (nI b) (nI n) = some (cvC (mc_go (mc_alu 10 a b n pc rg).1 md ba bo ti ro (mc_alu 10 a b n pc rg).2 mm dk cs)) := by
  have hca : ck (nI a) 8 := (ck_nI (by omega)).mpr ha
  have hcb : ck (nI b) 8 := (ck_nI (by omega)).mpr hb
  have ea : (nI a).toNatClampNeg = a := nI_clamp (by omega)
  have eb : (nI b).toNatClampNeg = b := nI_clamp (by omega)
  have h1 := hr a
  have h2 := hr b
  unfold f_MA_compute
  rw [if_neg (show ¬ nI 10 = (1 : Int32) by decide), if_neg (show ¬ nI 10 = (6 : Int32) by decide), if_neg (show ¬ nI 10 = (7 : Int32) by decide), if_neg (show ¬ nI 10 = (8 : Int32) by decide), if_neg (show ¬ nI 10 = (9 : Int32) by decide), if_pos (show nI 10 = (10 : Int32) by decide)]
  simp only [if_pos hca, if_pos hcb, ea, eb, nf_at, nI_p2]
  have e0 : upd (nf rg) a 0 = nf (mu rg a 0) := upd_nf rg a 0
  have e1 : upd (nf rg) a 1 = nf (mu rg a 1) := upd_nf rg a 1
  rw [ic (nI_leI (by omega) (by omega)), e0, e1]
  have ex : mc_alu 10 a b n pc rg = (pc + 2, mu rg a (if rg a < rg b then 1 else 0)) := rfl
  rw [ex]
  by_cases h : rg b ≤ rg a
  · rw [if_pos h, if_neg (show ¬ rg a < rg b by omega)]
    exact q_K hd ht
  · rw [if_neg h, if_pos (show rg a < rg b by omega)]
    exact q_K hd ht
theorem q_comp11 {md pc ba bo ti a b n : Nat} {ro : Bool} {rg mm dk : Nat → Nat} {cs : mc_K} (hd : md < 65536) (hp : pc < 65536) (ht : ti < 65536) (hr : ∀ i, rg i < 65536) (ha : a < 8) (hb : b < 8) (hn : n < 65536) : f_MA_compute (nI md) (nI pc) (nI ti) (bi ro) (nf rg) (nI 11) (nI a) (nI b) (nI n) = some (cvC (mc_go (mc_alu 11 a b n pc rg).1 md ba bo ti ro (mc_alu 11 a b n pc rg).2 mm dk cs)) := by
  have hca : ck (nI a) 8 := (ck_nI (by omega)).mpr ha
  have hcb : ck (nI b) 8 := (ck_nI (by omega)).mpr hb
  have ea : (nI a).toNatClampNeg = a := nI_clamp (by omega)
  have eb : (nI b).toNatClampNeg = b := nI_clamp (by omega)
  have h1 := hr a
  have h2 := hr b
  unfold f_MA_compute
  rw [if_neg (show ¬ nI 11 = (1 : Int32) by decide), if_neg (show ¬ nI 11 = (6 : Int32) by decide), if_neg (show ¬ nI 11 = (7 : Int32) by decide), if_neg (show ¬ nI 11 = (8 : Int32) by decide), if_neg (show ¬ nI 11 = (9 : Int32) by decide), if_neg (show ¬ nI 11 = (10 : Int32) by decide), if_pos (show nI 11 = (11 : Int32) by decide)]
  simp only [if_pos hca, ea, nf_at, nI_p2, q_sh h1 hn, Option.bind_some, upd_nf]
  exact q_K hd ht
theorem q_comp12 {md pc ba bo ti a b n : Nat} {ro : Bool} {rg mm dk : Nat → Nat} {cs : mc_K} (hd : md < 65536) (hp : pc < 65536) (ht : ti < 65536) (hr : ∀ i, rg i < 65536) (ha : a < 8) (hb : b < 8) (hn : n < 65536) : f_MA_compute (nI md) (nI pc) (nI ti) (bi ro) (nf rg) (nI 12) (nI a) (nI b) (nI n) = some (cvC (mc_go (mc_alu 12 a b n pc rg).1 md ba bo ti ro (mc_alu 12 a b n pc rg).2 mm dk cs)) := by
  have hca : ck (nI a) 8 := (ck_nI (by omega)).mpr ha
  have hcb : ck (nI b) 8 := (ck_nI (by omega)).mpr hb
  have ea : (nI a).toNatClampNeg = a := nI_clamp (by omega)
  have eb : (nI b).toNatClampNeg = b := nI_clamp (by omega)
  have h1 := hr a
  have h2 := hr b
  unfold f_MA_compute
  rw [if_neg (show ¬ nI 12 = (1 : Int32) by decide), if_neg (show ¬ nI 12 = (6 : Int32) by decide), if_neg (show ¬ nI 12 = (7 : Int32) by decide), if_neg (show ¬ nI 12 = (8 : Int32) by decide), if_neg (show ¬ nI 12 = (9 : Int32) by decide), if_neg (show ¬ nI 12 = (10 : Int32) by decide), if_neg (show ¬ nI 12 = (11 : Int32) by decide), if_pos (show nI 12 = (12 : Int32) by decide)]
  exact q_K hd ht
theorem q_comp13 {md pc ba bo ti a b n : Nat} {ro : Bool} {rg mm dk : Nat → Nat} {cs : mc_K} (hd : md < 65536) (hp : pc < 65536) (ht : ti < 65536) (hr : ∀ i, rg i < 65536) (ha : a < 8) (hb : b < 8) (hn : n < 65536) : f_MA_compute (nI md) (nI pc) (nI ti) (bi ro) (nf rg) (nI 13) (nI a) (nI b) (nI n) = some (cvC (mc_go (mc_alu 13 a b n pc rg).1 md ba bo ti ro (mc_alu 13 a b n pc rg).2 mm dk cs)) := by
  have hca : ck (nI a) 8 := (ck_nI (by omega)).mpr ha
  have hcb : ck (nI b) 8 := (ck_nI (by omega)).mpr hb
  have ea : (nI a).toNatClampNeg = a := nI_clamp (by omega)
  have eb : (nI b).toNatClampNeg = b := nI_clamp (by omega)
  have h1 := hr a
  have h2 := hr b
  unfold f_MA_compute
  rw [if_neg (show ¬ nI 13 = (1 : Int32) by decide), if_neg (show ¬ nI 13 = (6 : Int32) by decide), if_neg (show ¬ nI 13 = (7 : Int32) by decide), if_neg (show ¬ nI 13 = (8 : Int32) by decide), if_neg (show ¬ nI 13 = (9 : Int32) by decide), if_neg (show ¬ nI 13 = (10 : Int32) by decide), if_neg (show ¬ nI 13 = (11 : Int32) by decide), if_neg (show ¬ nI 13 = (12 : Int32) by decide), if_pos (show nI 13 = (13 : Int32) by decide)]
  simp only [if_pos hca, ea, nf_at, nI_p2]
  rw [ic (nIe_0 (by omega))]
  have ex : mc_alu 13 a b n pc rg = ((if rg a = 0 then n else pc + 2), rg) := rfl
  rw [ex]
  by_cases h : rg a = 0
  · rw [if_pos h, if_pos h]
    exact q_K hd ht
  · rw [if_neg h, if_neg h]
    exact q_K hd ht
theorem q_comp14 {md pc ba bo ti a b n : Nat} {ro : Bool} {rg mm dk : Nat → Nat} {cs : mc_K} (hd : md < 65536) (hp : pc < 65536) (ht : ti < 65536) (hr : ∀ i, rg i < 65536) (ha : a < 8) (hb : b < 8) (hn : n < 65536) : f_MA_compute (nI md) (nI pc) (nI ti) (bi ro) (nf rg) (nI 14) (nI a) (nI b) (nI n) = some (cvC (mc_go (mc_alu 14 a b n pc rg).1 md ba bo ti ro (mc_alu 14 a b n pc rg).2 mm dk cs)) := by
  have hca : ck (nI a) 8 := (ck_nI (by omega)).mpr ha
  have hcb : ck (nI b) 8 := (ck_nI (by omega)).mpr hb
  have ea : (nI a).toNatClampNeg = a := nI_clamp (by omega)
  have eb : (nI b).toNatClampNeg = b := nI_clamp (by omega)
  have h1 := hr a
  have h2 := hr b
  unfold f_MA_compute
  rw [if_neg (show ¬ nI 14 = (1 : Int32) by decide), if_neg (show ¬ nI 14 = (6 : Int32) by decide), if_neg (show ¬ nI 14 = (7 : Int32) by decide), if_neg (show ¬ nI 14 = (8 : Int32) by decide), if_neg (show ¬ nI 14 = (9 : Int32) by decide), if_neg (show ¬ nI 14 = (10 : Int32) by decide), if_neg (show ¬ nI 14 = (11 : Int32) by decide), if_neg (show ¬ nI 14 = (12 : Int32) by decide), if_neg (show ¬ nI 14 = (13 : Int32) by decide), if_pos (show nI 14 = (14 : Int32) by decide)]
  simp only [if_pos hca, ea, nf_at]
  exact q_K hd ht
theorem q_comp15 {md pc ba bo ti a b n : Nat} {ro : Bool} {rg mm dk : Nat → Nat} {cs : mc_K} (hd : md < 65536) (hp : pc < 65536) (ht : ti < 65536) (hr : ∀ i, rg i < 65536) (ha : a < 8) (hb : b < 8) (hn : n < 65536) : f_MA_compute (nI md) (nI pc) (nI ti) (bi ro) (nf rg) (nI 15) (nI a) (nI b) (nI n) = some (cvC (mc_go (mc_alu 15 a b n pc rg).1 md ba bo ti ro (mc_alu 15 a b n pc rg).2 mm dk cs)) := by
  have hca : ck (nI a) 8 := (ck_nI (by omega)).mpr ha
  have hcb : ck (nI b) 8 := (ck_nI (by omega)).mpr hb
  have ea : (nI a).toNatClampNeg = a := nI_clamp (by omega)
  have eb : (nI b).toNatClampNeg = b := nI_clamp (by omega)
  have h1 := hr a
  have h2 := hr b
  unfold f_MA_compute
  rw [if_neg (show ¬ nI 15 = (1 : Int32) by decide), if_neg (show ¬ nI 15 = (6 : Int32) by decide), if_neg (show ¬ nI 15 = (7 : Int32) by decide), if_neg (show ¬ nI 15 = (8 : Int32) by decide), if_neg (show ¬ nI 15 = (9 : Int32) by decide), if_neg (show ¬ nI 15 = (10 : Int32) by decide), if_neg (show ¬ nI 15 = (11 : Int32) by decide), if_neg (show ¬ nI 15 = (12 : Int32) by decide), if_neg (show ¬ nI 15 = (13 : Int32) by decide), if_neg (show ¬ nI 15 = (14 : Int32) by decide), if_pos (show nI 15 = (15 : Int32) by decide)]
  simp only [if_pos hca, ea, nI_p2, upd_nf]
  exact q_K hd ht
theorem q_comp {md pc ba bo ti a b n : Nat} {ro : Bool} {rg mm dk : Nat → Nat} {cs : mc_K} (hd : md < 65536) (hp : pc < 65536) (ht : ti < 65536) (hr : ∀ i, rg i < 65536) (ha : a < 8) (hb : b < 8) (hn : n < 65536) {op : Nat} (hop : (op = 1 ∨ 6 ≤ op) ∧ op ≤ 15) : f_MA_compute (nI md) (nI pc) (nI ti) (bi ro) (nf rg) (nI op) (nI a) (nI b) (nI n) = some (cvC (mc_go (mc_alu op a b n pc rg).1 md ba bo ti ro (mc_alu op a b n pc rg).2 mm dk cs)) := by
  have e : op = 1 ∨ op = 6 ∨ op = 7 ∨ op = 8 ∨ op = 9 ∨ op = 10 ∨ op = 11 ∨ op = 12 ∨ op = 13 ∨ op = 14 ∨ op = 15 := by omega
  rcases e with rfl | rfl | rfl | rfl | rfl | rfl | rfl | rfl | rfl | rfl | rfl
  · exact q_comp1 hd hp ht hr ha hb hn
  · exact q_comp6 hd hp ht hr ha hb hn
  · exact q_comp7 hd hp ht hr ha hb hn
  · exact q_comp8 hd hp ht hr ha hb hn
  · exact q_comp9 hd hp ht hr ha hb hn
  · exact q_comp10 hd hp ht hr ha hb hn
  · exact q_comp11 hd hp ht hr ha hb hn
  · exact q_comp12 hd hp ht hr ha hb hn
  · exact q_comp13 hd hp ht hr ha hb hn
  · exact q_comp14 hd hp ht hr ha hb hn
  · exact q_comp15 hd hp ht hr ha hb hn
end QMC
