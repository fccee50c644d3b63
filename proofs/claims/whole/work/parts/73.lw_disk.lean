/-! THE LAW: disk -/
section LWDISK
set_option maxHeartbeats 4000000 in
set_option maxRecDepth 100000 in
theorem cs_disk {p : Program} {l : Launch} {e : Env} {s : State} {m : MethodId} {below : List Frame} {meth : Method} {c : Code} {b L k i w8 w9 : Nat} {xs : Nat → Int32} {E : jz_E} {ga na : Nat → Nat} {ls : Array Slot} {tl : Nat} {T : Nat → Nat} {hlf hll : Int32} {hgs : Nat → Option Nat} {Wd : Nat → Nat} {shr sft sfl slc suc : Int32} {slb : Nat → Int64} {sla : Nat → Int32} {sul : Nat → Int64} {sua suL : Nat → Int32} {l9 : Nat} {lat len : Int32} {llb : Int64} {lor laa lbb lnu : Int32} {lwa : Int64} {zs : Nat → Int32} {za : Nat → Nat → Int32} {GC : Nat → va_W} {H : Heap} {locs : List Loc} (C : lwC p s m meth c b L xs E w8 w9) (hL : L ≤ 3072) (hi : i + 6 ≤ L) (hk : k < 600) (hl : lv_has ls 4 [(0, .ref b), (1, .ref (ga 0)), (2, .ref (na 0)), (3, .int (nI i))]) (N : NX p l e s m below meth c b (k + 1) E ga na ls) (hR : Rel E k tl T hlf hll hgs Wd zs za GC) (hP : va_P E.1 classes ((wGT E ga tl T hlf hll hgs Wd shr sft sfl slc suc slb sla sul sua suL l9 lat len llb lor laa lbb lnu lwa ++ wMD E na zs za) ++ pool GC) H) (hD : va_D (fun q : Nat => s.heap.size ≤ q) ((wGT E ga tl T hlf hll hgs Wd shr sft sfl slc suc slb sla sul sua suL l9 lat len llb lor laa lbb lnu lwa ++ wMD E na zs za) ++ pool GC)) (hS : va_S (fun q : Nat => s.heap.size ≤ q) s.heap H locs) : W p l e room_1 s m #[Value.ref b] below meth c H locs (cN hgs) (sN hgs) (lw_Z below #[Value.ref b] s) (F0 m 388 ls []) := by
  have hlf0 := hl.1
  obtain ⟨C0, hJ, hZ, hzC, hzN, hzW, htN, htW⟩ := C
  have J := lwJ C0
  obtain ⟨hx, hb, -, -, -, -, -, hbl, -, -⟩ := id C0
  have hA : ∀ q : Nat, s.heap.size ≤ q → (fun q : Nat => s.heap.size ≤ q) q := fun _ h => h
  have hcn := cnG_3 (hgs := hgs)
  have hcs : cN hgs + 0 ≤ room_1.cells ∧ sN hgs + 0 ≤ room_1.slots := by
    show 50 + 8 * cnG hgs + 0 ≤ 600000 ∧ 20000 + 2603 * cnG hgs + 0 ≤ 7302250
    omega
  rcases Rel_g hR (xs (i + 1)) with ⟨n1, n2⟩ | ⟨g, hg, eg, n2, ⟨g0, hg0, n1⟩, hp⟩
  · have e1 : f_GT_diskn (xs (i + 1)) (xs (i + 2)) (xs (i + 3)) = some (-1) := rfl
    have e2 : f_MD_disk (za 2) (za 19) (xs (i + 1)) (xs (i + 2)) (xs (i + 3)) = some (-1) := by
      unfold f_MD_disk
      rw [n2, Option.bind_some, if_pos rfl]
    refine lv_aload_n hx hb d_LW_law_388 rfl (lv_at hl 1 rfl) ?_
    refine lw_arg (kk := 1) C0 hL hi (by omega) (by decide) hS hl d_LW_law_389 d_LW_law_390 d_LW_law_391 d_LW_law_392 d_LW_law_393 ?_
    refine lw_arg (kk := 2) C0 hL hi (by omega) (by decide) hS hl d_LW_law_394 d_LW_law_395 d_LW_law_396 d_LW_law_397 d_LW_law_398 ?_
    refine lw_arg (kk := 3) C0 hL hi (by omega) (by decide) hS hl d_LW_law_399 d_LW_law_400 d_LW_law_401 d_LW_law_402 d_LW_law_403 ?_
    have hM := ct_GT_diskn l E (ga 1) (ga 10) (ga 2) (ga 0) H.size (nI tl) hlf hll hgs (xs (i + 1)) (xs (i + 2)) (xs (i + 3)) (-1) n1 e1
    have hr := jrunQ (p := p) (e := e) (below := below) (cells := cN hgs) (slots := sN hgs) (rest := []) (As := [.int (xs (i + 1)), .int (xs (i + 2)), .int (xs (i + 3))]) J hJ hA hZ hP hD hS hM [0, 1] rfl (by decide) gl_LW_50 gi_GT_disk gsel_GT_disk gini_GT gc_GT_disk hd_GT_disk ⟨rfl, rfl, Nat.le_of_ble_eq_true rfl, Nat.le_of_ble_eq_true rfl⟩ rfl rfl hlf0 rfl rfl (Nat.le_of_ble_eq_true rfl) d_LW_law_404 hcs
    refine jkq_i (WR := [_, _, _, _, _, _, _, _, _, _, _, _, _, _, _, _, _, _, _, _, _, _, _, _, _, _, _, _, _, _, _, _, _, _]) (XF := wGT E ga tl T hlf hll hgs Wd shr sft sfl slc suc slb sla sul sua suL l9 lat len llb lor laa lbb lnu lwa ++ wMD E na zs za) hr hA hP hD hS [0, 1] [2, 3, 4, 5, 6, 7, 8, 9, 10, 11, 12, 13, 14, 15, 16, 17, 18, 19, 20, 21, 22, 23, 24, 25, 26, 27, 28, 29, 30, 31, 32, 33, 34, 35] rfl rfl (by decide) (by decide) [34, 35, 0, 1, 2, 3, 4, 5, 6, 7, 8, 9, 10, 11, 12, 13, 14, 15, 16, 17, 18, 19, 20, 21, 22, 23, 24, 25, 26, 27, 28, 29, 30, 31, 32, 33] rfl (by decide) (fun H locs hP hD hS => ?_)
    clear hr hM
    refine lv_aload_n hx hb d_LW_law_407 rfl (lv_at hl 2 rfl) ?_
    refine lw_arg (kk := 1) C0 hL hi (by omega) (by decide) hS hl d_LW_law_408 d_LW_law_409 d_LW_law_410 d_LW_law_411 d_LW_law_412 ?_
    refine lw_arg (kk := 2) C0 hL hi (by omega) (by decide) hS hl d_LW_law_413 d_LW_law_414 d_LW_law_415 d_LW_law_416 d_LW_law_417 ?_
    refine lw_arg (kk := 3) C0 hL hi (by omega) (by decide) hS hl d_LW_law_418 d_LW_law_419 d_LW_law_420 d_LW_law_421 d_LW_law_422 ?_
    have hM := ct_MD_disk l E (na 0) (na 9) (na 10) (na 4) (na 19) (na 13) (na 2) (na 23) (na 21) (na 22) (na 24) (na 5) (na 7) (na 16) (na 15) (na 8) (na 12) (na 6) (na 3) (na 14) (na 1) (na 11) (na 18) (na 17) (na 20) H.size (zs 0) (zs 1) (zs 2) (zs 3) (zs 4) (zs 5) (zs 6) (zs 7) (zs 8) (zs 9) (zs 10) (zs 11) (zs 12) (zs 13) (zs 14) (za 2) (za 19) (xs (i + 1)) (xs (i + 2)) (xs (i + 3)) (-1) e2
    have hr := jrunQ (p := p) (e := e) (below := below) (cells := cN hgs) (slots := sN hgs) (rest := [.int (-1)]) (As := [.int (xs (i + 1)), .int (xs (i + 2)), .int (xs (i + 3))]) J hJ hA hZ hP hD hS hM [11, 13, 30] rfl (by decide) gl_LW_54 gi_MD_disk gsel_MD_disk gini_MD gc_MD_disk hd_MD_disk ⟨rfl, rfl, Nat.le_of_ble_eq_true rfl, Nat.le_of_ble_eq_true rfl⟩ rfl rfl hlf0 rfl rfl (Nat.le_of_ble_eq_true rfl) d_LW_law_423 hcs
    refine jkq_i (WR := [_, _, _, _, _, _, _, _, _, _, _, _, _, _, _, _, _, _, _, _, _, _, _, _, _, _, _, _, _, _, _, _, _]) (XF := wGT E ga tl T hlf hll hgs Wd shr sft sfl slc suc slb sla sul sua suL l9 lat len llb lor laa lbb lnu lwa ++ wMD E na zs za) hr hA hP hD hS [11, 13, 30] [0, 1, 2, 3, 4, 5, 6, 7, 8, 9, 10, 12, 14, 15, 16, 17, 18, 19, 20, 21, 22, 23, 24, 25, 26, 27, 28, 29, 31, 32, 33, 34, 35] rfl rfl (by decide) (by decide) [0, 1, 2, 3, 4, 5, 6, 7, 8, 9, 10, 33, 11, 34, 12, 13, 14, 15, 16, 17, 18, 19, 20, 21, 22, 23, 24, 25, 26, 27, 35, 28, 29, 30, 31, 32] rfl (by decide) (fun H locs hP hD hS => ?_)
    clear hr hM
    refine lv_icmp_eq (tgt := 431) hx hb d_LW_law_426 (by decide) (fun _ => ?_) (fun q => absurd rfl q)
    exact N _ _ _ _ _ _ _ _ _ _ _ _ _ _ _ _ _ _ _ _ _ _ _ _ _ zs za GC _ _ (Rel_k hR) hP hD hS
  · have hp0 := hp
    obtain ⟨ad, Sg, d, S, st, R, G0, kold, kwai, ksnt, ktyp, ksen, h1, h2, h3, h4, h5, h6, h7, h8, h9, h10, h11⟩ := hp
    rw [h1] at hg0; cases hg0
    obtain ⟨hP, hD⟩ := pl_out hg hP hD
    rw [h3] at hP hD
    obtain ⟨md, pc, ba, bo, ti, ro, ha, rg, mm, dk, cs⟩ := R
    obtain ⟨md2, pc2, ba2, bo2, ti2, ro2, ha2, rg2, mm2, dk2, cs2⟩ := G0
    have hdk : dk = dk2 := (g_see h4).2.2.2.1
    obtain ⟨r, e1, e2⟩ : ∃ r, f_GT_diskg (nf dk) (xs (i + 1)) (xs (i + 2)) (xs (i + 3)) = some r ∧ f_MD_disk (za 2) (za 19) (xs (i + 1)) (xs (i + 2)) (xs (i + 3)) = some r := by
      refine ⟨if xs (i + 2) < 0 then -1 else if (8 : Int32) ≤ xs (i + 2) then -1 else if xs (i + 3) < 0 then -1 else if xs (i + 3) < 16 then nI (dk2 ((xs (i + 2)).toNatClampNeg * 16 + (xs (i + 3)).toNatClampNeg)) else -1, ?_, ?_⟩
      · unfold f_GT_diskg
        rw [q_blockWord, ← hdk]
        rfl
      · rw [eg]
        exact m_disk hg h2 h6
    refine lv_aload_n hx hb d_LW_law_388 rfl (lv_at hl 1 rfl) ?_
    refine lw_arg (kk := 1) C0 hL hi (by omega) (by decide) hS hl d_LW_law_389 d_LW_law_390 d_LW_law_391 d_LW_law_392 d_LW_law_393 ?_
    refine lw_arg (kk := 2) C0 hL hi (by omega) (by decide) hS hl d_LW_law_394 d_LW_law_395 d_LW_law_396 d_LW_law_397 d_LW_law_398 ?_
    refine lw_arg (kk := 3) C0 hL hi (by omega) (by decide) hS hl d_LW_law_399 d_LW_law_400 d_LW_law_401 d_LW_law_402 d_LW_law_403 ?_
    have hM := ct_GT_diskg l E (ad 1) (ad 2) (ad 3) (ad 4) (ad 0) (ga 1) (ad 5) (ga 10) (ga 2) (ga 0) H.size (nI tl) hlf hll hgs (nI Sg) (nI d) (nI (d * 410)) (nI st) (nI S) (nI md) (nI pc) (nI ba) (nI bo) (rr S ba bo) (nI ti) (bi ro) (bi ha) (nf dk) (xs (i + 1)) (xs (i + 2)) (xs (i + 3)) r n1 e1
    have hr := jrunQ (p := p) (e := e) (below := below) (cells := cN hgs) (slots := sN hgs) (rest := []) (As := [.int (xs (i + 1)), .int (xs (i + 2)), .int (xs (i + 3))]) J hJ hA hZ hP hD hS hM [0, 1, 36, 37, 40] rfl (by decide) gl_LW_50 gi_GT_disk gsel_GT_disk gini_GT gc_GT_disk hd_GT_disk ⟨rfl, rfl, Nat.le_of_ble_eq_true rfl, Nat.le_of_ble_eq_true rfl⟩ rfl rfl hlf0 rfl rfl (Nat.le_of_ble_eq_true rfl) d_LW_law_404 hcs
    refine jkq_i (WR := [_, _, _, _, _, _, _, _, _, _, _, _, _, _, _, _, _, _, _, _, _, _, _, _, _, _, _, _, _, _, _, _, _, _, _, _, _, _, _]) (XF := (wGT E ga tl T hlf hll hgs Wd shr sft sfl slc suc slb sla sul sua suL l9 lat len llb lor laa lbb lnu lwa ++ wMD E na zs za) ++ gcl E ad Sg d S st (md, pc, ba, bo, ti, ro, ha, rg, mm, dk, cs) kold kwai ksnt ktyp ksen) hr hA hP hD hS [0, 1, 36, 37, 40] [2, 3, 4, 5, 6, 7, 8, 9, 10, 11, 12, 13, 14, 15, 16, 17, 18, 19, 20, 21, 22, 23, 24, 25, 26, 27, 28, 29, 30, 31, 32, 33, 34, 35, 38, 39, 41, 42, 43] rfl rfl (by decide) (by decide) [39, 40, 0, 1, 2, 3, 4, 5, 6, 7, 8, 9, 10, 11, 12, 13, 14, 15, 16, 17, 18, 19, 20, 21, 22, 23, 24, 25, 26, 27, 28, 29, 30, 31, 32, 33, 41, 42, 34, 35, 43, 36, 37, 38] rfl (by decide) (fun H locs hP hD hS => ?_)
    clear hr hM
    refine lv_aload_n hx hb d_LW_law_407 rfl (lv_at hl 2 rfl) ?_
    refine lw_arg (kk := 1) C0 hL hi (by omega) (by decide) hS hl d_LW_law_408 d_LW_law_409 d_LW_law_410 d_LW_law_411 d_LW_law_412 ?_
    refine lw_arg (kk := 2) C0 hL hi (by omega) (by decide) hS hl d_LW_law_413 d_LW_law_414 d_LW_law_415 d_LW_law_416 d_LW_law_417 ?_
    refine lw_arg (kk := 3) C0 hL hi (by omega) (by decide) hS hl d_LW_law_418 d_LW_law_419 d_LW_law_420 d_LW_law_421 d_LW_law_422 ?_
    have hM := ct_MD_disk l E (na 0) (na 9) (na 10) (na 4) (na 19) (na 13) (na 2) (na 23) (na 21) (na 22) (na 24) (na 5) (na 7) (na 16) (na 15) (na 8) (na 12) (na 6) (na 3) (na 14) (na 1) (na 11) (na 18) (na 17) (na 20) H.size (zs 0) (zs 1) (zs 2) (zs 3) (zs 4) (zs 5) (zs 6) (zs 7) (zs 8) (zs 9) (zs 10) (zs 11) (zs 12) (zs 13) (zs 14) (za 2) (za 19) (xs (i + 1)) (xs (i + 2)) (xs (i + 3)) r e2
    have hr := jrunQ (p := p) (e := e) (below := below) (cells := cN hgs) (slots := sN hgs) (rest := [.int r]) (As := [.int (xs (i + 1)), .int (xs (i + 2)), .int (xs (i + 3))]) J hJ hA hZ hP hD hS hM [11, 13, 30] rfl (by decide) gl_LW_54 gi_MD_disk gsel_MD_disk gini_MD gc_MD_disk hd_MD_disk ⟨rfl, rfl, Nat.le_of_ble_eq_true rfl, Nat.le_of_ble_eq_true rfl⟩ rfl rfl hlf0 rfl rfl (Nat.le_of_ble_eq_true rfl) d_LW_law_423 hcs
    refine jkq_i (WR := [_, _, _, _, _, _, _, _, _, _, _, _, _, _, _, _, _, _, _, _, _, _, _, _, _, _, _, _, _, _, _, _, _, _, _, _, _, _, _, _, _]) (XF := (wGT E ga tl T hlf hll hgs Wd shr sft sfl slc suc slb sla sul sua suL l9 lat len llb lor laa lbb lnu lwa ++ wMD E na zs za) ++ gcl E ad Sg d S st (md, pc, ba, bo, ti, ro, ha, rg, mm, dk, cs) kold kwai ksnt ktyp ksen) hr hA hP hD hS [11, 13, 30] [0, 1, 2, 3, 4, 5, 6, 7, 8, 9, 10, 12, 14, 15, 16, 17, 18, 19, 20, 21, 22, 23, 24, 25, 26, 27, 28, 29, 31, 32, 33, 34, 35, 36, 37, 38, 39, 40, 41, 42, 43] rfl rfl (by decide) (by decide) [0, 1, 2, 3, 4, 5, 6, 7, 8, 9, 10, 41, 11, 42, 12, 13, 14, 15, 16, 17, 18, 19, 20, 21, 22, 23, 24, 25, 26, 27, 43, 28, 29, 30, 31, 32, 33, 34, 35, 36, 37, 38, 39, 40] rfl (by decide) (fun H locs hP hD hS => ?_)
    clear hr hM
    refine lv_icmp_eq (tgt := 431) hx hb d_LW_law_426 (by decide) (fun _ => ?_) (fun q => absurd rfl q)
    obtain ⟨hP, hD⟩ := pl_in hg hP hD
    have eG : up1 GC g (gcl E ad Sg d S st (md, pc, ba, bo, ti, ro, ha, rg, mm, dk, cs) kold kwai ksnt ktyp ksen) = GC := by
      funext j
      by_cases e : j = g
      · subst e; rw [h3]; exact if_pos rfl
      · exact if_neg e
    rw [eG] at hP hD
    exact N _ _ _ _ _ _ _ _ _ _ _ _ _ _ _ _ _ _ _ _ _ _ _ _ _ zs za GC _ _ (Rel_k hR) hP hD hS
end LWDISK
