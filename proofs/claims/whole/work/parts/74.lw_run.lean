/-! THE LAW: run -/
section LWRUN
set_option maxHeartbeats 4000000 in
set_option maxRecDepth 100000 in
theorem cs_run {p : Program} {l : Launch} {e : Env} {s : State} {m : MethodId} {below : List Frame} {meth : Method} {c : Code} {b L k i w8 w9 : Nat} {xs : Nat → Int32} {E : jz_E} {ga na : Nat → Nat} {ls : Array Slot} {tl : Nat} {T : Nat → Nat} {hlf hll : Int32} {hgs : Nat → Option Nat} {Wd : Nat → Nat} {shr sft sfl slc suc : Int32} {slb : Nat → Int64} {sla : Nat → Int32} {sul : Nat → Int64} {sua suL : Nat → Int32} {l9 : Nat} {lat len : Int32} {llb : Int64} {lor laa lbb lnu : Int32} {lwa : Int64} {zs : Nat → Int32} {za : Nat → Nat → Int32} {GC : Nat → va_W} {H : Heap} {locs : List Loc} (C : lwC p s m meth c b L xs E w8 w9) (hL : L ≤ 3072) (hi : i + 6 ≤ L) (hk : k < 600) (hl : lv_has ls 4 [(0, .ref b), (1, .ref (ga 0)), (2, .ref (na 0)), (3, .int (nI i))]) (N : NX p l e s m below meth c b (k + 1) E ga na ls) (hR : Rel E k tl T hlf hll hgs Wd zs za GC) (hP : va_P E.1 classes ((wGT E ga tl T hlf hll hgs Wd shr sft sfl slc suc slb sla sul sua suL l9 lat len llb lor laa lbb lnu lwa ++ wMD E na zs za) ++ pool GC) H) (hD : va_D (fun q : Nat => s.heap.size ≤ q) ((wGT E ga tl T hlf hll hgs Wd shr sft sfl slc suc slb sla sul sua suL l9 lat len llb lor laa lbb lnu lwa ++ wMD E na zs za) ++ pool GC)) (hS : va_S (fun q : Nat => s.heap.size ≤ q) s.heap H locs) : W p l e room_1 s m #[Value.ref b] below meth c H locs (cN hgs) (sN hgs) (lw_Z below #[Value.ref b] s) (F0 m 223 ls []) := by
  have hlf0 := hl.1
  obtain ⟨C0, hJ, hZ, hzC, hzN, hzW, htN, htW⟩ := C
  have J := lwJ C0
  obtain ⟨hx, hb, -, -, -, -, -, hbl, -, -⟩ := id C0
  have hA : ∀ q : Nat, s.heap.size ≤ q → (fun q : Nat => s.heap.size ≤ q) q := fun _ h => h
  have hcn := cnG_3 (hgs := hgs)
  have hcs : cN hgs + 0 ≤ room_1.cells ∧ sN hgs + 0 ≤ room_1.slots := by
    show 50 + 8 * cnG hgs + 0 ≤ 600000 ∧ 20000 + 2603 * cnG hgs + 0 ≤ 7302250
    omega
  rcases Rel_g hR (xs (i + 1)) with ⟨n1, n2⟩ | ⟨g, hg, eg, n2, ⟨g0, hg0, n1⟩, hp⟩
  · have e1 : f_GT_runn (xs (i + 1)) (xs (i + 2)) = some (-1) := rfl
    have e2 : f_MD_run (zs 14) (za 2) (za 3) (za 5) (za 6) (za 7) (za 8) (za 9) (za 10) (za 11) (za 12) (za 13) (za 14) (za 15) (za 16) (za 17) (za 18) (za 19) (xs (i + 1)) (xs (i + 2)) = some ((-1), zs 14, za 5, za 6, za 7, za 8, za 9, za 10, za 11, za 12, za 13, za 14, za 15, za 16, za 17, za 18, za 19) := by
      unfold f_MD_run
      rw [n2, Option.bind_some, if_pos rfl]
    refine lv_aload_n hx hb d_LW_law_223 rfl (lv_at hl 1 rfl) ?_
    refine lw_arg (kk := 1) C0 hL hi (by omega) (by decide) hS hl d_LW_law_224 d_LW_law_225 d_LW_law_226 d_LW_law_227 d_LW_law_228 ?_
    refine lw_arg (kk := 2) C0 hL hi (by omega) (by decide) hS hl d_LW_law_229 d_LW_law_230 d_LW_law_231 d_LW_law_232 d_LW_law_233 ?_
    have hM := ct_GT_runn l E (ga 1) (ga 10) (ga 2) (ga 0) H.size (nI tl) hlf hll hgs (xs (i + 1)) (xs (i + 2)) (-1) n1 e1
    have hr := jrunQ (p := p) (e := e) (below := below) (cells := cN hgs) (slots := sN hgs) (rest := []) (As := [.int (xs (i + 1)), .int (xs (i + 2))]) J hJ hA hZ hP hD hS hM [0, 1] rfl (by decide) gl_LW_28 gi_GT_run gsel_GT_run gini_GT gc_GT_run hd_GT_run ⟨rfl, rfl, Nat.le_of_ble_eq_true rfl, Nat.le_of_ble_eq_true rfl⟩ rfl rfl hlf0 rfl rfl (Nat.le_of_ble_eq_true rfl) d_LW_law_234 hcs
    refine jkq_i (WR := [_, _, _, _, _, _, _, _, _, _, _, _, _, _, _, _, _, _, _, _, _, _, _, _, _, _, _, _, _, _, _, _, _, _]) (XF := wGT E ga tl T hlf hll hgs Wd shr sft sfl slc suc slb sla sul sua suL l9 lat len llb lor laa lbb lnu lwa ++ wMD E na zs za) hr hA hP hD hS [0, 1] [2, 3, 4, 5, 6, 7, 8, 9, 10, 11, 12, 13, 14, 15, 16, 17, 18, 19, 20, 21, 22, 23, 24, 25, 26, 27, 28, 29, 30, 31, 32, 33, 34, 35] rfl rfl (by decide) (by decide) [34, 35, 0, 1, 2, 3, 4, 5, 6, 7, 8, 9, 10, 11, 12, 13, 14, 15, 16, 17, 18, 19, 20, 21, 22, 23, 24, 25, 26, 27, 28, 29, 30, 31, 32, 33] rfl (by decide) (fun H locs hP hD hS => ?_)
    clear hr hM
    refine lv_aload_n hx hb d_LW_law_237 rfl (lv_at hl 2 rfl) ?_
    refine lw_arg (kk := 1) C0 hL hi (by omega) (by decide) hS hl d_LW_law_238 d_LW_law_239 d_LW_law_240 d_LW_law_241 d_LW_law_242 ?_
    refine lw_arg (kk := 2) C0 hL hi (by omega) (by decide) hS hl d_LW_law_243 d_LW_law_244 d_LW_law_245 d_LW_law_246 d_LW_law_247 ?_
    have hM := ct_MD_run l E (na 0) (na 9) (na 10) (na 4) (na 19) (na 13) (na 2) (na 23) (na 21) (na 22) (na 24) (na 5) (na 7) (na 16) (na 15) (na 8) (na 12) (na 6) (na 3) (na 14) (na 1) (na 11) (na 18) (na 17) (na 20) H.size (zs 0) (zs 1) (zs 2) (zs 3) (zs 4) (zs 5) (zs 6) (zs 7) (zs 8) (zs 9) (zs 10) (zs 11) (zs 12) (zs 13) (zs 14) (za 2) (za 3) (za 5) (za 6) (za 7) (za 8) (za 9) (za 10) (za 11) (za 12) (za 13) (za 14) (za 15) (za 16) (za 17) (za 18) (za 19) (xs (i + 1)) (xs (i + 2)) (-1) (zs 14) (za 5) (za 6) (za 7) (za 8) (za 9) (za 10) (za 11) (za 12) (za 13) (za 14) (za 15) (za 16) (za 17) (za 18) (za 19) e2
    have hr := jrunQ (p := p) (e := e) (below := below) (cells := cN hgs) (slots := sN hgs) (rest := [.int (-1)]) (As := [.int (xs (i + 1)), .int (xs (i + 2))]) J hJ hA hZ hP hD hS hM [11, 13, 14, 16, 17, 18, 19, 20, 21, 22, 23, 24, 25, 26, 27, 28, 29, 30] rfl (by decide) gl_LW_32 gi_MD_run gsel_MD_run gini_MD gc_MD_run hd_MD_run ⟨rfl, rfl, Nat.le_of_ble_eq_true rfl, Nat.le_of_ble_eq_true rfl⟩ rfl rfl hlf0 rfl rfl (Nat.le_of_ble_eq_true rfl) d_LW_law_248 hcs
    refine jkq_i (WR := [_, _, _, _, _, _, _, _, _, _, _, _, _, _, _, _, _, _]) (XF := wGT E ga tl T hlf hll hgs Wd shr sft sfl slc suc slb sla sul sua suL l9 lat len llb lor laa lbb lnu lwa ++ wMD E na zs za) hr hA hP hD hS [11, 13, 14, 16, 17, 18, 19, 20, 21, 22, 23, 24, 25, 26, 27, 28, 29, 30] [0, 1, 2, 3, 4, 5, 6, 7, 8, 9, 10, 12, 15, 31, 32, 33, 34, 35] rfl rfl (by decide) (by decide) [0, 1, 2, 3, 4, 5, 6, 7, 8, 9, 10, 18, 11, 19, 20, 12, 21, 22, 23, 24, 25, 26, 27, 28, 29, 30, 31, 32, 33, 34, 35, 13, 14, 15, 16, 17] rfl (by decide) (fun H locs hP hD hS => ?_)
    clear hr hM
    refine lv_icmp_eq (tgt := 431) hx hb d_LW_law_251 (by decide) (fun _ => ?_) (fun q => absurd rfl q)
    exact N _ _ _ _ _ _ _ _ _ _ _ _ _ _ _ _ _ _ _ _ _ _ _ _ _ zs za GC _ _ (Rel_k hR) hP hD hS
  · have hp0 := hp
    obtain ⟨ad, Sg, d, S, st, R, G0, kold, kwai, ksnt, ktyp, ksen, h1, h2, h3, h4, h5, h6, h7, h8, h9, h10, h11⟩ := hp
    rw [h1] at hg0; cases hg0
    obtain ⟨hP, hD⟩ := pl_out hg hP hD
    rw [h3] at hP hD
    obtain ⟨r, zme', st', R', G', kold', kwai', ksnt', ksen', B', yst, e1, e2, r1, r2, r3, r4, r5, r6, r7, r8⟩ := run_both (zme := zs 14) (p2 := xs (i + 2)) hg h4 h5 h6 h2 h7 h9 h10 h11 hk
    obtain ⟨md, pc, ba, bo, ti, ro, ha, rg, mm, dk, cs⟩ := R
    obtain ⟨md', pc', ba', bo', ti', ro', ha', rg', mm', dk', cs'⟩ := R'
    obtain ⟨ymem, yreg, ymd, ypc, yba, ybo, yti, yro, yha, you, yop, ywa, yty, ydk⟩ := B'
    have e1 : f_GT_rung (nI d) (nI st) (nI S) (nI md) (nI pc) (nI ba) (nI bo) (rr S ba bo) (nI ti) (bi ro) (bi ha) (nf mm) (nf rg) (nf dk) kold kwai ksnt ktyp ksen (nI g) (xs (i + 2)) = some (r, nI st', nI md', nI pc', nI ba', nI bo', rr S ba' bo', nI ti', bi ro', bi ha', nf mm', nf rg', nf dk', kold', kwai', ksnt', ksen') := e1
    have e2 : f_MD_run (zs 14) (za 2) (za 3) (za 5) (za 6) (za 7) (za 8) (za 9) (za 10) (za 11) (za 12) (za 13) (za 14) (za 15) (za 16) (za 17) (za 18) (za 19) (nI g) (xs (i + 2)) = some (r, zme', ymem, yreg, ymd, ypc, yba, ybo, yti, yro, yha, yst, you, yop, ywa, yty, ydk) := e2
    rw [← eg] at e1 e2
    refine lv_aload_n hx hb d_LW_law_223 rfl (lv_at hl 1 rfl) ?_
    refine lw_arg (kk := 1) C0 hL hi (by omega) (by decide) hS hl d_LW_law_224 d_LW_law_225 d_LW_law_226 d_LW_law_227 d_LW_law_228 ?_
    refine lw_arg (kk := 2) C0 hL hi (by omega) (by decide) hS hl d_LW_law_229 d_LW_law_230 d_LW_law_231 d_LW_law_232 d_LW_law_233 ?_
    have hM := ct_GT_rung l E (ad 1) (ad 2) (ad 3) (ad 4) (ad 0) (ga 1) (ad 5) (ad 6) (ad 7) (ga 10) (ga 2) (ga 0) H.size (nI tl) hlf hll hgs (nI Sg) (nI d) (nI (d * 410)) (nI st) (nI S) (nI md) (nI pc) (nI ba) (nI bo) (rr S ba bo) (nI ti) (bi ro) (bi ha) (nf mm) (nf rg) (nf dk) kold kwai ksnt ktyp ksen (xs (i + 1)) (xs (i + 2)) r (nI st') (nI md') (nI pc') (nI ba') (nI bo') (rr S ba' bo') (nI ti') (bi ro') (bi ha') (nf mm') (nf rg') (nf dk') kold' kwai' ksnt' ksen' n1 e1
    have hr := jrunQ (p := p) (e := e) (below := below) (cells := cN hgs) (slots := sN hgs) (rest := []) (As := [.int (xs (i + 1)), .int (xs (i + 2))]) J hJ hA hZ hP hD hS hM [0, 1, 36, 37, 38, 39, 40, 41, 42, 43] rfl (by decide) gl_LW_28 gi_GT_run gsel_GT_run gini_GT gc_GT_run hd_GT_run ⟨rfl, rfl, Nat.le_of_ble_eq_true rfl, Nat.le_of_ble_eq_true rfl⟩ rfl rfl hlf0 rfl rfl (Nat.le_of_ble_eq_true rfl) d_LW_law_234 hcs
    refine jkq_i (WR := [_, _, _, _, _, _, _, _, _, _, _, _, _, _, _, _, _, _, _, _, _, _, _, _, _, _, _, _, _, _, _, _, _, _]) (XF := (wGT E ga tl T hlf hll hgs Wd shr sft sfl slc suc slb sla sul sua suL l9 lat len llb lor laa lbb lnu lwa ++ wMD E na zs za) ++ gcl E ad Sg d S st' (md', pc', ba', bo', ti', ro', ha', rg', mm', dk', cs') kold' kwai' ksnt' ktyp ksen') hr hA hP hD hS [0, 1, 36, 37, 38, 39, 40, 41, 42, 43] [2, 3, 4, 5, 6, 7, 8, 9, 10, 11, 12, 13, 14, 15, 16, 17, 18, 19, 20, 21, 22, 23, 24, 25, 26, 27, 28, 29, 30, 31, 32, 33, 34, 35] rfl rfl (by decide) (by decide) [34, 35, 0, 1, 2, 3, 4, 5, 6, 7, 8, 9, 10, 11, 12, 13, 14, 15, 16, 17, 18, 19, 20, 21, 22, 23, 24, 25, 26, 27, 28, 29, 30, 31, 32, 33, 36, 37, 38, 39, 40, 41, 42, 43] rfl (by decide) (fun H locs hP hD hS => ?_)
    clear hr hM
    refine lv_aload_n hx hb d_LW_law_237 rfl (lv_at hl 2 rfl) ?_
    refine lw_arg (kk := 1) C0 hL hi (by omega) (by decide) hS hl d_LW_law_238 d_LW_law_239 d_LW_law_240 d_LW_law_241 d_LW_law_242 ?_
    refine lw_arg (kk := 2) C0 hL hi (by omega) (by decide) hS hl d_LW_law_243 d_LW_law_244 d_LW_law_245 d_LW_law_246 d_LW_law_247 ?_
    have hM := ct_MD_run l E (na 0) (na 9) (na 10) (na 4) (na 19) (na 13) (na 2) (na 23) (na 21) (na 22) (na 24) (na 5) (na 7) (na 16) (na 15) (na 8) (na 12) (na 6) (na 3) (na 14) (na 1) (na 11) (na 18) (na 17) (na 20) H.size (zs 0) (zs 1) (zs 2) (zs 3) (zs 4) (zs 5) (zs 6) (zs 7) (zs 8) (zs 9) (zs 10) (zs 11) (zs 12) (zs 13) (zs 14) (za 2) (za 3) (za 5) (za 6) (za 7) (za 8) (za 9) (za 10) (za 11) (za 12) (za 13) (za 14) (za 15) (za 16) (za 17) (za 18) (za 19) (xs (i + 1)) (xs (i + 2)) r zme' ymem yreg ymd ypc yba ybo yti yro yha yst you yop ywa yty ydk e2
    have hr := jrunQ (p := p) (e := e) (below := below) (cells := cN hgs) (slots := sN hgs) (rest := [.int r]) (As := [.int (xs (i + 1)), .int (xs (i + 2))]) J hJ hA hZ hP hD hS hM [11, 13, 14, 16, 17, 18, 19, 20, 21, 22, 23, 24, 25, 26, 27, 28, 29, 30] rfl (by decide) gl_LW_32 gi_MD_run gsel_MD_run gini_MD gc_MD_run hd_MD_run ⟨rfl, rfl, Nat.le_of_ble_eq_true rfl, Nat.le_of_ble_eq_true rfl⟩ rfl rfl hlf0 rfl rfl (Nat.le_of_ble_eq_true rfl) d_LW_law_248 hcs
    refine jkq_i (WR := [_, _, _, _, _, _, _, _, _, _, _, _, _, _, _, _, _, _, _, _, _, _, _, _, _, _]) (XF := (wGT E ga tl T hlf hll hgs Wd shr sft sfl slc suc slb sla sul sua suL l9 lat len llb lor laa lbb lnu lwa ++ wMD E na (up1 zs 14 zme') (zaB za (ymem, yreg, ymd, ypc, yba, ybo, yti, yro, yha, you, yop, ywa, yty, ydk) yst)) ++ gcl E ad Sg d S st' (md', pc', ba', bo', ti', ro', ha', rg', mm', dk', cs') kold' kwai' ksnt' ktyp ksen') hr hA hP hD hS [11, 13, 14, 16, 17, 18, 19, 20, 21, 22, 23, 24, 25, 26, 27, 28, 29, 30] [0, 1, 2, 3, 4, 5, 6, 7, 8, 9, 10, 12, 15, 31, 32, 33, 34, 35, 36, 37, 38, 39, 40, 41, 42, 43] rfl rfl (by decide) (by decide) [0, 1, 2, 3, 4, 5, 6, 7, 8, 9, 10, 26, 11, 27, 28, 12, 29, 30, 31, 32, 33, 34, 35, 36, 37, 38, 39, 40, 41, 42, 43, 13, 14, 15, 16, 17, 18, 19, 20, 21, 22, 23, 24, 25] rfl (by decide) (fun H locs hP hD hS => ?_)
    clear hr hM
    refine lv_icmp_eq (tgt := 431) hx hb d_LW_law_251 (by decide) (fun _ => ?_) (fun q => absurd rfl q)
    obtain ⟨hP, hD⟩ := pl_in hg hP hD
    exact N _ _ _ _ _ _ _ _ _ _ _ _ _ _ _ _ _ _ _ _ _ _ _ _ _ (up1 zs 14 zme') (zaB za (ymem, yreg, ymd, ypc, yba, ybo, yti, yro, yha, you, yop, ywa, yty, ydk) yst) (up1 GC g (gcl E ad Sg d S st' (md', pc', ba', bo', ti', ro', ha', rg', mm', dk', cs') kold' kwai' ksnt' ktyp ksen')) _ _ (Rel_n hR rfl rfl rfl rfl r4 r5 ⟨ad, Sg, d, S, st', _, G', kold', kwai', ksnt', ktyp, ksen', h1, h2, rfl, r1, r2, r3, h7, h8, r6, r7, r8⟩) hP hD hS
end LWRUN
