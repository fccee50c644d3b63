/-! THE LAW: fault -/
section LWFAULT
set_option maxHeartbeats 4000000 in
set_option maxRecDepth 100000 in
theorem cs_fault {p : Program} {l : Launch} {e : Env} {s : State} {m : MethodId} {below : List Frame} {meth : Method} {c : Code} {b L k i w8 w9 : Nat} {xs : Nat → Int32} {E : jz_E} {ga na : Nat → Nat} {ls : Array Slot} {tl : Nat} {T : Nat → Nat} {hlf hll : Int32} {hgs : Nat → Option Nat} {Wd : Nat → Nat} {shr sft sfl slc suc : Int32} {slb : Nat → Int64} {sla : Nat → Int32} {sul : Nat → Int64} {sua suL : Nat → Int32} {l9 : Nat} {lat len : Int32} {llb : Int64} {lor laa lbb lnu : Int32} {lwa : Int64} {zs : Nat → Int32} {za : Nat → Nat → Int32} {GC : Nat → va_W} {H : Heap} {locs : List Loc} (C : lwC p s m meth c b L xs E w8 w9) (hL : L ≤ 3072) (hi : i + 6 ≤ L) (hk : k < 600) (hl : lv_has ls 4 [(0, .ref b), (1, .ref (ga 0)), (2, .ref (na 0)), (3, .int (nI i))]) (N : NX p l e s m below meth c b (k + 1) E ga na ls) (hR : Rel E k tl T hlf hll hgs Wd zs za GC) (hP : va_P E.1 classes ((wGT E ga tl T hlf hll hgs Wd shr sft sfl slc suc slb sla sul sua suL l9 lat len llb lor laa lbb lnu lwa ++ wMD E na zs za) ++ pool GC) H) (hD : va_D (fun q : Nat => s.heap.size ≤ q) ((wGT E ga tl T hlf hll hgs Wd shr sft sfl slc suc slb sla sul sua suL l9 lat len llb lor laa lbb lnu lwa ++ wMD E na zs za) ++ pool GC)) (hS : va_S (fun q : Nat => s.heap.size ≤ q) s.heap H locs) : W p l e room_1 s m #[Value.ref b] below meth c H locs (cN hgs) (sN hgs) (lw_Z below #[Value.ref b] s) (F0 m 200 ls []) := by
  have hlf0 := hl.1
  obtain ⟨C0, hJ, hZ, hzC, hzN, hzW, htN, htW⟩ := C
  have J := lwJ C0
  obtain ⟨hx, hb, -, -, -, -, -, hbl, -, -⟩ := id C0
  have hA : ∀ q : Nat, s.heap.size ≤ q → (fun q : Nat => s.heap.size ≤ q) q := fun _ h => h
  have hcn := cnG_3 (hgs := hgs)
  have hcs : cN hgs + 0 ≤ room_1.cells ∧ sN hgs + 0 ≤ room_1.slots := by
    show 50 + 8 * cnG hgs + 0 ≤ 600000 ∧ 20000 + 2603 * cnG hgs + 0 ≤ 7302250
    omega
  obtain ⟨r, e1, e2⟩ : ∃ r, f_GT_fault hlf hll (xs (i + 1)) = some r ∧ f_MD_fault (zs 5) (zs 6) (zs 7) (xs (i + 1)) = some r := by
    unfold f_GT_fault f_MD_fault
    rcases hR.2.2.2.2.1 with ⟨q1, q2, q3⟩ | ⟨q1, q2, q3⟩
    · refine ⟨-1, ?_, by rw [q3, if_pos rfl]⟩
      rw [q1, q2]
      repeat' split
      all_goals rfl
    · rw [q1, q2, q3, if_neg (show ¬ (1 : Int32) = 0 by decide)]
      by_cases a0 : xs (i + 1) = 0
      · exact ⟨zs 5, by rw [if_pos a0], by rw [if_pos a0]⟩
      · by_cases a1 : xs (i + 1) = 1
        · exact ⟨zs 6, by rw [if_neg a0, if_pos a1], by rw [if_neg a0, if_pos a1]⟩
        · exact ⟨-1, by rw [if_neg a0, if_neg a1], by rw [if_neg a0, if_neg a1]⟩
  refine lv_aload_n hx hb d_LW_law_200 rfl (lv_at hl 1 rfl) ?_
  refine lw_arg (kk := 1) C0 hL hi (by omega) (by decide) hS hl d_LW_law_201 d_LW_law_202 d_LW_law_203 d_LW_law_204 d_LW_law_205 ?_
  have hM := ct_GT_fault l E (ga 1) (ga 10) (ga 2) (ga 0) H.size (nI tl) hlf hll (xs (i + 1)) r e1
  have hr := jrunQ (p := p) (e := e) (below := below) (cells := cN hgs) (slots := sN hgs) (rest := []) (As := [.int (xs (i + 1))]) J hJ hA hZ hP hD hS hM [0] rfl (by decide) gl_LW_23 gi_GT_fault gsel_GT_fault gini_GT gc_GT_fault hd_GT_fault ⟨rfl, rfl, Nat.le_of_ble_eq_true rfl, Nat.le_of_ble_eq_true rfl⟩ rfl rfl hlf0 rfl rfl (Nat.le_of_ble_eq_true rfl) d_LW_law_206 hcs
  refine jkq_i (WR := [_, _, _, _, _, _, _, _, _, _, _, _, _, _, _, _, _, _, _, _, _, _, _, _, _, _, _, _, _, _, _, _, _, _, _]) (XF := wGT E ga tl T hlf hll hgs Wd shr sft sfl slc suc slb sla sul sua suL l9 lat len llb lor laa lbb lnu lwa ++ wMD E na zs za) hr hA hP hD hS [0] [1, 2, 3, 4, 5, 6, 7, 8, 9, 10, 11, 12, 13, 14, 15, 16, 17, 18, 19, 20, 21, 22, 23, 24, 25, 26, 27, 28, 29, 30, 31, 32, 33, 34, 35] rfl rfl (by decide) (by decide) [35, 0, 1, 2, 3, 4, 5, 6, 7, 8, 9, 10, 11, 12, 13, 14, 15, 16, 17, 18, 19, 20, 21, 22, 23, 24, 25, 26, 27, 28, 29, 30, 31, 32, 33, 34] rfl (by decide) (fun H locs hP hD hS => ?_)
  clear hr hM
  refine lv_aload_n hx hb d_LW_law_209 rfl (lv_at hl 2 rfl) ?_
  refine lw_arg (kk := 1) C0 hL hi (by omega) (by decide) hS hl d_LW_law_210 d_LW_law_211 d_LW_law_212 d_LW_law_213 d_LW_law_214 ?_
  have hM := ct_MD_fault l E (na 0) (na 9) (na 10) (na 4) (na 19) (na 13) (na 2) (na 23) (na 21) (na 22) (na 24) (na 5) (na 7) (na 16) (na 15) (na 8) (na 12) (na 6) (na 3) (na 14) (na 1) (na 11) (na 18) (na 17) (na 20) H.size (zs 0) (zs 1) (zs 2) (zs 3) (zs 4) (zs 5) (zs 6) (zs 7) (zs 8) (zs 9) (zs 10) (zs 11) (zs 12) (zs 13) (zs 14) (xs (i + 1)) r e2
  have hr := jrunQ (p := p) (e := e) (below := below) (cells := cN hgs) (slots := sN hgs) (rest := [.int r]) (As := [.int (xs (i + 1))]) J hJ hA hZ hP hD hS hM [11] rfl (by decide) gl_LW_27 gi_MD_fault gsel_MD_fault gini_MD gc_MD_fault hd_MD_fault ⟨rfl, rfl, Nat.le_of_ble_eq_true rfl, Nat.le_of_ble_eq_true rfl⟩ rfl rfl hlf0 rfl rfl (Nat.le_of_ble_eq_true rfl) d_LW_law_215 hcs
  refine jkq_i (WR := [_, _, _, _, _, _, _, _, _, _, _, _, _, _, _, _, _, _, _, _, _, _, _, _, _, _, _, _, _, _, _, _, _, _, _]) (XF := wGT E ga tl T hlf hll hgs Wd shr sft sfl slc suc slb sla sul sua suL l9 lat len llb lor laa lbb lnu lwa ++ wMD E na zs za) hr hA hP hD hS [11] [0, 1, 2, 3, 4, 5, 6, 7, 8, 9, 10, 12, 13, 14, 15, 16, 17, 18, 19, 20, 21, 22, 23, 24, 25, 26, 27, 28, 29, 30, 31, 32, 33, 34, 35] rfl rfl (by decide) (by decide) [0, 1, 2, 3, 4, 5, 6, 7, 8, 9, 10, 35, 11, 12, 13, 14, 15, 16, 17, 18, 19, 20, 21, 22, 23, 24, 25, 26, 27, 28, 29, 30, 31, 32, 33, 34] rfl (by decide) (fun H locs hP hD hS => ?_)
  clear hr hM
  refine lv_icmp_eq (tgt := 431) hx hb d_LW_law_218 (by decide) (fun _ => ?_) (fun q => absurd rfl q)
  exact N _ _ _ _ _ _ _ _ _ _ _ _ _ _ _ _ _ _ _ _ _ _ _ _ _ _ _ _ _ _ (Rel_k hR) hP hD hS
end LWFAULT
