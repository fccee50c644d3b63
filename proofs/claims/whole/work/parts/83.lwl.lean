/-! THE LAW: its loop -/
section LWL
def NY (p : Program) (l : Launch) (e : Env) (s : State) (m : MethodId) (below : List Frame) (meth : Method) (c : Code) (b k : Nat) (E : jz_E) (ga na : Nat → Nat) (ls : Array Slot) : Prop := ∀ (tl : Nat) (T : Nat → Nat) (hlf hll : Int32) (hgs : Nat → Option Nat) (Wd : Nat → Nat) (shr sft sfl slc suc : Int32) (slb : Nat → Int64) (sla : Nat → Int32) (sul : Nat → Int64) (sua suL : Nat → Int32) (l9 : Nat) (lat len : Int32) (llb : Int64) (lor laa lbb lnu : Int32) (lwa : Int64) (zs : Nat → Int32) (za : Nat → Nat → Int32) (GC : Nat → va_W) (H : Heap) (locs : List Loc), Rel E k tl T hlf hll hgs Wd zs za GC → va_P E.1 classes ((wGT E ga tl T hlf hll hgs Wd shr sft sfl slc suc slb sla sul sua suL l9 lat len llb lor laa lbb lnu lwa ++ wMD E na zs za) ++ pool GC) H → va_D (fun q : Nat => s.heap.size ≤ q) ((wGT E ga tl T hlf hll hgs Wd shr sft sfl slc suc slb sla sul sua suL l9 lat len llb lor laa lbb lnu lwa ++ wMD E na zs za) ++ pool GC) → va_S (fun q : Nat => s.heap.size ≤ q) s.heap H locs → W p l e room_1 s m #[Value.ref b] below meth c H locs (cN hgs) (sN hgs) (lw_Z below #[Value.ref b] s) (F0 m 18 ls [])
theorem lw_len {i L : Nat} (hL : L ≤ 3072) (hi : i ≤ L) (h : ¬ Int32.ofNat L - 6 < nI i) : i + 6 ≤ L := by
  have e0 : Int32.ofNat L = nI L := rfl
  rw [e0, Int32.lt_iff_toInt_lt, Int32.toInt_sub, nI_toInt (by omega), nI_toInt (by omega), show (6 : Int32).toInt = 6 from rfl, Int.bmod_eq_of_le (by omega) (by omega)] at h
  omega
set_option maxHeartbeats 4000000 in
set_option maxRecDepth 100000 in
theorem law_loop {p : Program} {l : Launch} {e : Env} {s : State} {m : MethodId} {below : List Frame} {meth : Method} {c : Code} {b L w8 w9 : Nat} {xs : Nat → Int32} {E : jz_E} {ga na : Nat → Nat} (C : lwC p s m meth c b L xs E w8 w9) (hL : L ≤ 3072) : ∀ (n k : Nat), 6 * k ≤ L → L + 1 ≤ 6 * k + n → ∀ (ls : Array Slot), lv_has ls 4 [(0, .ref b), (1, .ref (ga 0)), (2, .ref (na 0)), (3, .int (nI (6 * k)))] → NY p l e s m below meth c b k E ga na ls := by
  obtain ⟨hx, hb, hr, hml, hown, hts, hX, hbl, hlocks, hgv⟩ := id C.1
  have hbA : ¬ (fun q : Nat => s.heap.size ≤ q) b := Nat.not_le.mpr hbl
  intro n
  induction n with
  | zero =>
    intro k h1 h2
    exact absurd h2 (by omega)
  | succ n ih =>
    intro k h1 h2 ls hl
    intro tl T hlf hll hgs Wd shr sft sfl slc suc slb sla sul sua suL l9 lat len llb lor laa lbb lnu lwa zs za GC H locs hR hP hD hS
    have hcn := cnG_3 (hgs := hgs)
    refine lv_iload_n hx hb d_LW_law_18 rfl (lv_at hl 3 rfl) ?_
    refine lv_aload_n hx hb d_LW_law_19 rfl (lv_at hl 0 rfl) ?_
    refine va_slen hx hb hX hbl hbA hS d_LW_law_20 ?_
    refine lv_bipush (v := 6) hx hb d_LW_law_21 (by decide) ?_
    refine lv_isub hx hb d_LW_law_23 ?_
    refine lv_icmp_gt (tgt := 437) hx hb d_LW_law_24 (by decide) (fun q => ?_) (fun q => ?_)
    · refine lv_iconst (v := 1) hx hb d_LW_law_437 (by decide) ?_
      refine va_forget (fun q hq => hS.2.2 q hq) ?_
      refine W.widen (k := 600000) (n := 7302250) (show 50 + 8 * cnG hgs ≤ 600000 by omega) (show 20000 + 2603 * cnG hgs ≤ 7302250 by omega) ?_
      exact lw_ret hx hb hr hlocks d_LW_law_438
    · have hi : 6 * k + 6 ≤ L := lw_len hL h1 q
      have N : NX p l e s m below meth c b (k + 1) E ga na ls := by
        intro tl T hlf hll hgs Wd shr sft sfl slc suc slb sla sul sua suL l9 lat len llb lor laa lbb lnu lwa zs za GC H locs hR hP hD hS
        refine lv_iinc (v := nI (6 * (k + 1))) (lv' := [(3, .int (nI (6 * (k + 1)))), (0, .ref b), (1, .ref (ga 0)), (2, .ref (na 0))]) hx hb d_LW_law_431 hl (k := 3) rfl (nI_add (6 * k) 6) (by decide) rfl (fun ls hl => ?_)
        refine lv_goto (tgt := 18) hx hb d_LW_law_434 (by decide) ?_
        exact ih (k + 1) (by omega) (by omega) ls (lv_sub hl [1, 2, 3, 0] rfl) _ _ _ _ _ _ _ _ _ _ _ _ _ _ _ _ _ _ _ _ _ _ _ _ _ _ _ _ _ _ hR hP hD hS
      have hk : k < 600 := by omega
      refine lv_aload_n hx hb d_LW_law_27 rfl (lv_at hl 0 rfl) ?_
      refine lv_iload_n hx hb d_LW_law_28 rfl (lv_at hl 3 rfl) ?_
      refine va_sld hx hb hX hbl hbA hS (vp_in_nI (by omega) (by omega)) d_LW_law_29 ?_
      refine lv_bipush (v := 15) hx hb d_LW_law_30 (by decide) ?_
      refine lv_iand hx hb d_LW_law_32 ?_
      generalize xs (nI (6 * k)).toNatClampNeg &&& 15 = x
      by_cases hq : x.toInt < 0 ∨ 8 < x.toInt
      · refine lv_tableOut (tgt := 431) hx hb d_LW_law_33 hq (by decide) ?_
        exact N _ _ _ _ _ _ _ _ _ _ _ _ _ _ _ _ _ _ _ _ _ _ _ _ _ _ _ _ _ _ (Rel_k hR) hP hD hS
      have hq1 : ¬ x.toInt < 0 := fun z => hq (Or.inl z)
      have hq2 : ¬ 8 < x.toInt := fun z => hq (Or.inr z)
      rcases (show x.toInt = 0 ∨ x.toInt = 1 ∨ x.toInt = 2 ∨ x.toInt = 3 ∨ x.toInt = 4 ∨ x.toInt = 5 ∨ x.toInt = 6 ∨ x.toInt = 7 ∨ x.toInt = 8 by omega) with hj | hj | hj | hj | hj | hj | hj | hj | hj
      · refine lv_tableIn (off := 51) (tgt := 84) hx hb d_LW_law_33 hq1 hq2 (by rw [hj]; rfl) (by decide) ?_
        exact cs_feed C hL hi hk hl N hR hP hD hS
      · refine lv_tableIn (off := 114) (tgt := 147) hx hb d_LW_law_33 hq1 hq2 (by rw [hj]; rfl) (by decide) ?_
        exact cs_load C hL hi hk hl N hR hP hD hS
      · refine lv_tableIn (off := 167) (tgt := 200) hx hb d_LW_law_33 hq1 hq2 (by rw [hj]; rfl) (by decide) ?_
        exact cs_fault C hL hi hk hl N hR hP hD hS
      · refine lv_tableIn (off := 190) (tgt := 223) hx hb d_LW_law_33 hq1 hq2 (by rw [hj]; rfl) (by decide) ?_
        exact cs_run C hL hi hk hl N hR hP hD hS
      · refine lv_tableIn (off := 223) (tgt := 256) hx hb d_LW_law_33 hq1 hq2 (by rw [hj]; rfl) (by decide) ?_
        exact cs_type C hL hi hk hl N hR hP hD hS
      · refine lv_tableIn (off := 256) (tgt := 289) hx hb d_LW_law_33 hq1 hq2 (by rw [hj]; rfl) (by decide) ?_
        exact cs_look C hL hi hk hl N hR hP hD hS
      · refine lv_tableIn (off := 289) (tgt := 322) hx hb d_LW_law_33 hq1 hq2 (by rw [hj]; rfl) (by decide) ?_
        exact cs_word C hL hi hk hl N hR hP hD hS
      · refine lv_tableIn (off := 322) (tgt := 355) hx hb d_LW_law_33 hq1 hq2 (by rw [hj]; rfl) (by decide) ?_
        exact cs_output C hL hi hk hl N hR hP hD hS
      · refine lv_tableIn (off := 355) (tgt := 388) hx hb d_LW_law_33 hq1 hq2 (by rw [hj]; rfl) (by decide) ?_
        exact cs_disk C hL hi hk hl N hR hP hD hS
end LWL
