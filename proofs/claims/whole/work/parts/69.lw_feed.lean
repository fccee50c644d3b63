/-! THE LAW: feed -/
section LWFEED
set_option maxHeartbeats 4000000 in
set_option maxRecDepth 100000 in
theorem cs_feed {p : Program} {l : Launch} {e : Env} {s : State} {m : MethodId} {below : List Frame} {meth : Method} {c : Code} {b L k i w8 w9 : Nat} {xs : Nat → Int32} {E : jz_E} {ga na : Nat → Nat} {ls : Array Slot} {tl : Nat} {T : Nat → Nat} {hlf hll : Int32} {hgs : Nat → Option Nat} {Wd : Nat → Nat} {shr sft sfl slc suc : Int32} {slb : Nat → Int64} {sla : Nat → Int32} {sul : Nat → Int64} {sua suL : Nat → Int32} {l9 : Nat} {lat len : Int32} {llb : Int64} {lor laa lbb lnu : Int32} {lwa : Int64} {zs : Nat → Int32} {za : Nat → Nat → Int32} {GC : Nat → va_W} {H : Heap} {locs : List Loc} (C : lwC p s m meth c b L xs E w8 w9) (hL : L ≤ 3072) (hi : i + 6 ≤ L) (hk : k < 600) (hl : lv_has ls 4 [(0, .ref b), (1, .ref (ga 0)), (2, .ref (na 0)), (3, .int (nI i))]) (N : NX p l e s m below meth c b (k + 1) E ga na ls) (hR : Rel E k tl T hlf hll hgs Wd zs za GC) (hP : va_P E.1 classes ((wGT E ga tl T hlf hll hgs Wd shr sft sfl slc suc slb sla sul sua suL l9 lat len llb lor laa lbb lnu lwa ++ wMD E na zs za) ++ pool GC) H) (hD : va_D (fun q : Nat => s.heap.size ≤ q) ((wGT E ga tl T hlf hll hgs Wd shr sft sfl slc suc slb sla sul sua suL l9 lat len llb lor laa lbb lnu lwa ++ wMD E na zs za) ++ pool GC)) (hS : va_S (fun q : Nat => s.heap.size ≤ q) s.heap H locs) : W p l e room_1 s m #[Value.ref b] below meth c H locs (cN hgs) (sN hgs) (lw_Z below #[Value.ref b] s) (F0 m 84 ls []) := by
  have hlf0 := hl.1
  obtain ⟨C0, hJ, hZ, hzC, hzN, hzW, htN, htW⟩ := C
  have J := lwJ C0
  obtain ⟨hx, hb, -, -, -, -, -, hbl, -, -⟩ := id C0
  have hA : ∀ q : Nat, s.heap.size ≤ q → (fun q : Nat => s.heap.size ≤ q) q := fun _ h => h
  have hcn := cnG_3 (hgs := hgs)
  have hcs : cN hgs + 0 ≤ room_1.cells ∧ sN hgs + 0 ≤ room_1.slots := by
    show 50 + 8 * cnG hgs + 0 ≤ 600000 ∧ 20000 + 2603 * cnG hgs + 0 ≤ 7302250
    omega
  obtain ⟨r, tl', T', z', f1, f2, f3, e1, e2⟩ := fd_both (tl := tl) (a := xs (i + 1)) (b := xs (i + 2)) (c := xs (i + 3)) (d := xs (i + 4)) (e := xs (i + 5)) hR.2.1 hR.2.2.1 hR.1
  rw [← hR.2.2.2.1] at e2
  refine lv_aload_n hx hb d_LW_law_84 rfl (lv_at hl 1 rfl) ?_
  refine lw_arg (kk := 1) C0 hL hi (by omega) (by decide) hS hl d_LW_law_85 d_LW_law_86 d_LW_law_87 d_LW_law_88 d_LW_law_89 ?_
  refine lw_arg (kk := 2) C0 hL hi (by omega) (by decide) hS hl d_LW_law_90 d_LW_law_91 d_LW_law_92 d_LW_law_93 d_LW_law_94 ?_
  refine lw_arg (kk := 3) C0 hL hi (by omega) (by decide) hS hl d_LW_law_95 d_LW_law_96 d_LW_law_97 d_LW_law_98 d_LW_law_99 ?_
  refine lw_arg (kk := 4) C0 hL hi (by omega) (by decide) hS hl d_LW_law_100 d_LW_law_101 d_LW_law_102 d_LW_law_103 d_LW_law_104 ?_
  refine lw_arg (kk := 5) C0 hL hi (by omega) (by decide) hS hl d_LW_law_105 d_LW_law_106 d_LW_law_107 d_LW_law_108 d_LW_law_109 ?_
  have hM := ct_GT_feed l E (ga 1) (ga 10) (ga 2) (ga 0) H.size (nI tl) hlf hll (nf T) (xs (i + 1)) (xs (i + 2)) (xs (i + 3)) (xs (i + 4)) (xs (i + 5)) r (nI tl') (nf T') e1
  have hr := jrunQ (p := p) (e := e) (below := below) (cells := cN hgs) (slots := sN hgs) (rest := []) (As := [.int (xs (i + 1)), .int (xs (i + 2)), .int (xs (i + 3)), .int (xs (i + 4)), .int (xs (i + 5))]) J hJ hA hZ hP hD hS hM [0, 10] rfl (by decide) gl_LW_13 gi_GT_feed gsel_GT_feed gini_GT gc_GT_feed hd_GT_feed ⟨rfl, rfl, Nat.le_of_ble_eq_true rfl, Nat.le_of_ble_eq_true rfl⟩ rfl rfl hlf0 rfl rfl (Nat.le_of_ble_eq_true rfl) d_LW_law_110 hcs
  refine jkq_i (WR := [_, _, _, _, _, _, _, _, _, _, _, _, _, _, _, _, _, _, _, _, _, _, _, _, _, _, _, _, _, _, _, _, _, _]) (XF := wGT E ga tl' T' hlf hll hgs Wd shr sft sfl slc suc slb sla sul sua suL l9 lat len llb lor laa lbb lnu lwa ++ wMD E na zs za) hr hA hP hD hS [0, 10] [1, 2, 3, 4, 5, 6, 7, 8, 9, 11, 12, 13, 14, 15, 16, 17, 18, 19, 20, 21, 22, 23, 24, 25, 26, 27, 28, 29, 30, 31, 32, 33, 34, 35] rfl rfl (by decide) (by decide) [34, 0, 1, 2, 3, 4, 5, 6, 7, 8, 35, 9, 10, 11, 12, 13, 14, 15, 16, 17, 18, 19, 20, 21, 22, 23, 24, 25, 26, 27, 28, 29, 30, 31, 32, 33] rfl (by decide) (fun H locs hP hD hS => ?_)
  clear hr hM
  refine lv_aload_n hx hb d_LW_law_113 rfl (lv_at hl 2 rfl) ?_
  refine lw_arg (kk := 1) C0 hL hi (by omega) (by decide) hS hl d_LW_law_114 d_LW_law_115 d_LW_law_116 d_LW_law_117 d_LW_law_118 ?_
  refine lw_arg (kk := 2) C0 hL hi (by omega) (by decide) hS hl d_LW_law_119 d_LW_law_120 d_LW_law_121 d_LW_law_122 d_LW_law_123 ?_
  refine lw_arg (kk := 3) C0 hL hi (by omega) (by decide) hS hl d_LW_law_124 d_LW_law_125 d_LW_law_126 d_LW_law_127 d_LW_law_128 ?_
  refine lw_arg (kk := 4) C0 hL hi (by omega) (by decide) hS hl d_LW_law_129 d_LW_law_130 d_LW_law_131 d_LW_law_132 d_LW_law_133 ?_
  refine lw_arg (kk := 5) C0 hL hi (by omega) (by decide) hS hl d_LW_law_134 d_LW_law_135 d_LW_law_136 d_LW_law_137 d_LW_law_138 ?_
  have hM := ct_MD_feed l E (na 0) (na 9) (na 10) (na 4) (na 19) (na 13) (na 2) (na 23) (na 21) (na 22) (na 24) (na 5) (na 7) (na 16) (na 15) (na 8) (na 12) (na 6) (na 3) (na 14) (na 1) (na 11) (na 18) (na 17) (na 20) H.size (zs 0) (zs 1) (zs 2) (zs 3) (zs 4) (zs 5) (zs 6) (zs 7) (zs 8) (zs 9) (zs 10) (zs 11) (zs 12) (zs 13) (zs 14) (za 1) (xs (i + 1)) (xs (i + 2)) (xs (i + 3)) (xs (i + 4)) (xs (i + 5)) r (nI tl') z' e2
  have hr := jrunQ (p := p) (e := e) (below := below) (cells := cN hgs) (slots := sN hgs) (rest := [.int r]) (As := [.int (xs (i + 1)), .int (xs (i + 2)), .int (xs (i + 3)), .int (xs (i + 4)), .int (xs (i + 5))]) J hJ hA hZ hP hD hS hM [11, 12] rfl (by decide) gl_LW_17 gi_MD_feed gsel_MD_feed gini_MD gc_MD_feed hd_MD_feed ⟨rfl, rfl, Nat.le_of_ble_eq_true rfl, Nat.le_of_ble_eq_true rfl⟩ rfl rfl hlf0 rfl rfl (Nat.le_of_ble_eq_true rfl) d_LW_law_139 hcs
  refine jkq_i (WR := [_, _, _, _, _, _, _, _, _, _, _, _, _, _, _, _, _, _, _, _, _, _, _, _, _, _, _, _, _, _, _, _, _, _]) (XF := wGT E ga tl' T' hlf hll hgs Wd shr sft sfl slc suc slb sla sul sua suL l9 lat len llb lor laa lbb lnu lwa ++ wMD E na (up1 zs 0 (nI tl')) (up1 za 1 z')) hr hA hP hD hS [11, 12] [0, 1, 2, 3, 4, 5, 6, 7, 8, 9, 10, 13, 14, 15, 16, 17, 18, 19, 20, 21, 22, 23, 24, 25, 26, 27, 28, 29, 30, 31, 32, 33, 34, 35] rfl rfl (by decide) (by decide) [0, 1, 2, 3, 4, 5, 6, 7, 8, 9, 10, 34, 35, 11, 12, 13, 14, 15, 16, 17, 18, 19, 20, 21, 22, 23, 24, 25, 26, 27, 28, 29, 30, 31, 32, 33] rfl (by decide) (fun H locs hP hD hS => ?_)
  clear hr hM
  refine lv_icmp_eq (tgt := 431) hx hb d_LW_law_142 (by decide) (fun _ => ?_) (fun q => absurd rfl q)
  obtain ⟨h1, h2, h3, h4, h5, h6, h7, h8⟩ := hR
  refine N _ _ _ _ _ _ _ _ _ _ _ _ _ _ _ _ _ _ _ _ _ _ _ _ _ (up1 zs 0 (nI tl')) (up1 za 1 z') GC _ _ ⟨f1, f2, f3, rfl, h5, h6, h7, fun g hg => RelG_c (fun j q1 q2 => if_neg (by omega)) (RelG_k (h8 g hg))⟩ hP hD hS
end LWFEED
