section MON2
variable {r0 r1 r2 r3 r4 r5 r6 r7 : Nat} {g : Nat → Nat} {S k c bo ti : Nat} {Q : mc_S → Prop} {ro : Bool} {m dk : Nat → Nat} {cs : mc_K}
theorem bb_16 (hS : 474 ≤ S ∧ S ≤ bo) (hc : mcode m)  (kk : RN S Q k c ((if (m 406) = 0 then 0 else 1), (m 407), (m 408), ((bo + 65536 - 410) % 65536), ti, ro, false, rf 0 0 r2 r3 r4 r5 r6 r7 g, (mu (mu (mu (mu (mu (mu (mu m 0 0) 1 18) 2 0) 3 bo) 403 ((bo + 65536 - 410) % 65536)) 12 ((bo + 65536 - 410) % 65536)) 409 ((bo + 65536 - 410) % 65536)), dk, cs)) : RN S Q (k + 10) (c + 408) (0, 16, 0, bo, ti, ro, false, rf r0 r1 r2 r3 r4 r5 r6 r7 g, m, dk, cs) := by
  refine mo_pv hS hc (by decide) mw_16 mw_17 (ad := 0) (ct := 4) (by decide) rfl rfl (by omega) (s' := (0, 18, 0, bo, ti, ro, false, rf r0 r1 r2 r3 r4 r5 r6 r7 g, (mu (mu (mu (mu m 0 0) 1 18) 2 0) 3 bo), dk, cs)) rfl ?_
  have hc := mcode_mu (a := 0) (x := 0) hc (by omega)
  have hc := mcode_mu (a := 1) (x := 18) hc (by omega)
  have hc := mcode_mu (a := 2) (x := 0) hc (by omega)
  have hc := mcode_mu (a := 3) (x := bo) hc (by omega)
  refine mo_ld hS hc (by decide) mw_18 mw_19 (ad := 3) (v := bo) (by decide) rfl (by omega) (mu_s _ _ _) rf_m0 ?_
  refine mo_alu hS hc (by decide) mw_20 mw_21 (by decide) (nx := 22) (rg1 := mu (rf bo r1 r2 r3 r4 r5 r6 r7 g) 1 410) rfl rf_m1 ?_
  refine mo_alu hS hc (by decide) mw_22 mw_23 (by decide) (nx := 24) (rg1 := mu (rf bo 410 r2 r3 r4 r5 r6 r7 g) 0 ((bo + 65536 - 410) % 65536)) rfl rf_m0 ?_
  refine mo_sto hS hc (by decide) mw_24 mw_25 (ad := 403) (v := ((bo + 65536 - 410) % 65536)) (by decide) rfl (by omega) rfl ?_
  have hc := mcode_mu (a := 403) (x := ((bo + 65536 - 410) % 65536)) hc (by omega)
  refine mo_sto hS hc (by decide) mw_26 mw_27 (ad := 12) (v := ((bo + 65536 - 410) % 65536)) (by decide) rfl (by omega) rfl ?_
  have hc := mcode_mu (a := 12) (x := ((bo + 65536 - 410) % 65536)) hc (by omega)
  refine mo_sto hS hc (by decide) mw_28 mw_29 (ad := 409) (v := ((bo + 65536 - 410) % 65536)) (by decide) rfl (by omega) rfl ?_
  have hc := mcode_mu (a := 409) (x := ((bo + 65536 - 410) % 65536)) hc (by omega)
  refine mo_alu hS hc (by decide) mw_30 mw_31 (by decide) (nx := 32) (rg1 := mu (rf ((bo + 65536 - 410) % 65536) 410 r2 r3 r4 r5 r6 r7 g) 0 0) rfl rf_m0 ?_
  refine mo_alu hS hc (by decide) mw_32 mw_33 (by decide) (nx := 34) (rg1 := mu (rf 0 410 r2 r3 r4 r5 r6 r7 g) 1 0) rfl rf_m1 ?_
  refine mo_pv hS hc (by decide) mw_34 mw_35 (ad := 406) (ct := 4) (by decide) rfl rfl (by omega) (s' := ((if (m 406) = 0 then 0 else 1), (m 407), (m 408), ((bo + 65536 - 410) % 65536), ti, ro, false, rf 0 0 r2 r3 r4 r5 r6 r7 g, (mu (mu (mu (mu (mu (mu (mu m 0 0) 1 18) 2 0) 3 bo) 403 ((bo + 65536 - 410) % 65536)) 12 ((bo + 65536 - 410) % 65536)) 409 ((bo + 65536 - 410) % 65536)), dk, cs)) rfl ?_
  exact kk
theorem bb_36 (hS : 474 ≤ S ∧ S ≤ bo) (hc : mcode m)  (kk : RN S Q k c (0, (if (m 10) = 0 then 162 else 50), 0, bo, ti, ro, false, rf (m 10) r1 r2 r3 r4 r5 r6 r7 g, (mu (mu (mu (mu (mu m 395 r0) 396 r1) 397 r2) 398 r3) 399 r4), dk, cs)) : RN S Q (k + 7) (c + 7) (0, 36, 0, bo, ti, ro, false, rf r0 r1 r2 r3 r4 r5 r6 r7 g, m, dk, cs) := by
  refine mo_sto hS hc (by decide) mw_36 mw_37 (ad := 395) (v := r0) (by decide) rfl (by omega) rfl ?_
  have hc := mcode_mu (a := 395) (x := r0) hc (by omega)
  refine mo_sto hS hc (by decide) mw_38 mw_39 (ad := 396) (v := r1) (by decide) rfl (by omega) rfl ?_
  have hc := mcode_mu (a := 396) (x := r1) hc (by omega)
  refine mo_sto hS hc (by decide) mw_40 mw_41 (ad := 397) (v := r2) (by decide) rfl (by omega) rfl ?_
  have hc := mcode_mu (a := 397) (x := r2) hc (by omega)
  refine mo_sto hS hc (by decide) mw_42 mw_43 (ad := 398) (v := r3) (by decide) rfl (by omega) rfl ?_
  have hc := mcode_mu (a := 398) (x := r3) hc (by omega)
  refine mo_sto hS hc (by decide) mw_44 mw_45 (ad := 399) (v := r4) (by decide) rfl (by omega) rfl ?_
  have hc := mcode_mu (a := 399) (x := r4) hc (by omega)
  refine mo_ld hS hc (by decide) mw_46 mw_47 (ad := 10) (v := (m 10)) (by decide) rfl (by omega) ((mu_n _ _ (by decide)).trans ((mu_n _ _ (by decide)).trans ((mu_n _ _ (by decide)).trans ((mu_n _ _ (by decide)).trans ((mu_n _ _ (by decide)).trans (rfl)))))) rf_m0 ?_
  refine mo_alu hS hc (by decide) mw_48 mw_49 (by decide) (nx := (if (m 10) = 0 then 162 else 50)) (rg1 := rf (m 10) r1 r2 r3 r4 r5 r6 r7 g) rfl rfl ?_
  exact kk
theorem bb_50 (hS : 474 ≤ S ∧ S ≤ bo) (hc : mcode m)  (kk : RN S Q k c (0, 74, 0, bo, ti, ro, false, rf r0 414 r2 r3 r4 r5 r6 r7 g, (mu (mu (mu (mu (mu (mu m 410 r0) 411 (m 1)) 412 (m 11)) 413 (m 12)) 418 (m 8)) 419 (m 9)), dk, cs)) : RN S Q (k + 12) (c + 12) (0, 50, 0, bo, ti, ro, false, rf r0 r1 r2 r3 r4 r5 r6 r7 g, m, dk, cs) := by
  refine mo_sto hS hc (by decide) mw_50 mw_51 (ad := 410) (v := r0) (by decide) rfl (by omega) rfl ?_
  have hc := mcode_mu (a := 410) (x := r0) hc (by omega)
  refine mo_ld hS hc (by decide) mw_52 mw_53 (ad := 1) (v := (m 1)) (by decide) rfl (by omega) ((mu_n _ _ (by decide)).trans (rfl)) rf_m1 ?_
  refine mo_sto hS hc (by decide) mw_54 mw_55 (ad := 411) (v := (m 1)) (by decide) rfl (by omega) rfl ?_
  have hc := mcode_mu (a := 411) (x := (m 1)) hc (by omega)
  refine mo_ld hS hc (by decide) mw_56 mw_57 (ad := 11) (v := (m 11)) (by decide) rfl (by omega) ((mu_n _ _ (by decide)).trans ((mu_n _ _ (by decide)).trans (rfl))) rf_m1 ?_
  refine mo_sto hS hc (by decide) mw_58 mw_59 (ad := 412) (v := (m 11)) (by decide) rfl (by omega) rfl ?_
  have hc := mcode_mu (a := 412) (x := (m 11)) hc (by omega)
  refine mo_ld hS hc (by decide) mw_60 mw_61 (ad := 12) (v := (m 12)) (by decide) rfl (by omega) ((mu_n _ _ (by decide)).trans ((mu_n _ _ (by decide)).trans ((mu_n _ _ (by decide)).trans (rfl)))) rf_m1 ?_
  refine mo_sto hS hc (by decide) mw_62 mw_63 (ad := 413) (v := (m 12)) (by decide) rfl (by omega) rfl ?_
  have hc := mcode_mu (a := 413) (x := (m 12)) hc (by omega)
  refine mo_ld hS hc (by decide) mw_64 mw_65 (ad := 8) (v := (m 8)) (by decide) rfl (by omega) ((mu_n _ _ (by decide)).trans ((mu_n _ _ (by decide)).trans ((mu_n _ _ (by decide)).trans ((mu_n _ _ (by decide)).trans (rfl))))) rf_m1 ?_
  refine mo_sto hS hc (by decide) mw_66 mw_67 (ad := 418) (v := (m 8)) (by decide) rfl (by omega) rfl ?_
  have hc := mcode_mu (a := 418) (x := (m 8)) hc (by omega)
  refine mo_ld hS hc (by decide) mw_68 mw_69 (ad := 9) (v := (m 9)) (by decide) rfl (by omega) ((mu_n _ _ (by decide)).trans ((mu_n _ _ (by decide)).trans ((mu_n _ _ (by decide)).trans ((mu_n _ _ (by decide)).trans ((mu_n _ _ (by decide)).trans (rfl)))))) rf_m1 ?_
  refine mo_sto hS hc (by decide) mw_70 mw_71 (ad := 419) (v := (m 9)) (by decide) rfl (by omega) rfl ?_
  have hc := mcode_mu (a := 419) (x := (m 9)) hc (by omega)
  refine mo_alu hS hc (by decide) mw_72 mw_73 (by decide) (nx := 74) (rg1 := mu (rf r0 (m 9) r2 r3 r4 r5 r6 r7 g) 1 414) rfl rf_m1 ?_
  exact kk
theorem bb_74 (hS : 474 ≤ S ∧ S ≤ bo) (hc : mcode m) {a74 : Nat} (e74 : (r1 + 1) % 65536 = a74) (b74 : a74 < S) {a78 : Nat} (e78 : (r1 + 2) % 65536 = a78) (b78 : a78 < S) {a82 : Nat} (e82 : (r1 + 3) % 65536 = a82) (b82 : a82 < S) {a86 : Nat} (e86 : (r1 + 0) % 65536 = a86) (b86 : a86 < S) (kk : RN S Q k c (0, (if (if ((mu m 407 (m a74)) a78) < (m 403) then 1 else 0) = 0 then 134 else 100), 0, bo, ti, ro, false, rf r0 ((mu (mu (mu m 407 (m a74)) 11 ((mu m 407 (m a74)) a78)) 12 ((mu (mu m 407 (m a74)) 11 ((mu m 407 (m a74)) a78)) a82)) a86) (if ((mu m 407 (m a74)) a78) < (m 403) then 1 else 0) ((mu (mu m 407 (m a74)) 11 ((mu m 407 (m a74)) a78)) a82) (m 403) r5 r6 r7 g, (mu (mu (mu (mu m 407 (m a74)) 11 ((mu m 407 (m a74)) a78)) 12 ((mu (mu m 407 (m a74)) 11 ((mu m 407 (m a74)) a78)) a82)) 408 ((410 + ((mu m 407 (m a74)) a78)) % 65536)), dk, cs)) : RN S Q (k + 13) (c + 13) (0, 74, 0, bo, ti, ro, false, rf r0 r1 r2 r3 r4 r5 r6 r7 g, m, dk, cs) := by
  refine mo_ld hS hc (by decide) mw_74 mw_75 (ad := a74) (v := (m a74)) (by decide) e74 b74 rfl rf_m2 ?_
  refine mo_sto hS hc (by decide) mw_76 mw_77 (ad := 407) (v := (m a74)) (by decide) rfl (by omega) rfl ?_
  have hc := mcode_mu (a := 407) (x := (m a74)) hc (by omega)
  refine mo_ld hS hc (by decide) mw_78 mw_79 (ad := a78) (v := ((mu m 407 (m a74)) a78)) (by decide) e78 b78 rfl rf_m2 ?_
  refine mo_sto hS hc (by decide) mw_80 mw_81 (ad := 11) (v := ((mu m 407 (m a74)) a78)) (by decide) rfl (by omega) rfl ?_
  have hc := mcode_mu (a := 11) (x := ((mu m 407 (m a74)) a78)) hc (by omega)
  refine mo_ld hS hc (by decide) mw_82 mw_83 (ad := a82) (v := ((mu (mu m 407 (m a74)) 11 ((mu m 407 (m a74)) a78)) a82)) (by decide) e82 b82 rfl rf_m3 ?_
  refine mo_sto hS hc (by decide) mw_84 mw_85 (ad := 12) (v := ((mu (mu m 407 (m a74)) 11 ((mu m 407 (m a74)) a78)) a82)) (by decide) rfl (by omega) rfl ?_
  have hc := mcode_mu (a := 12) (x := ((mu (mu m 407 (m a74)) 11 ((mu m 407 (m a74)) a78)) a82)) hc (by omega)
  refine mo_ld hS hc (by decide) mw_86 mw_87 (ad := a86) (v := ((mu (mu (mu m 407 (m a74)) 11 ((mu m 407 (m a74)) a78)) 12 ((mu (mu m 407 (m a74)) 11 ((mu m 407 (m a74)) a78)) a82)) a86)) (by decide) e86 b86 rfl rf_m1 ?_
  refine mo_alu hS hc (by decide) mw_88 mw_89 (by decide) (nx := 90) (rg1 := mu (rf r0 ((mu (mu (mu m 407 (m a74)) 11 ((mu m 407 (m a74)) a78)) 12 ((mu (mu m 407 (m a74)) 11 ((mu m 407 (m a74)) a78)) a82)) a86) ((mu m 407 (m a74)) a78) ((mu (mu m 407 (m a74)) 11 ((mu m 407 (m a74)) a78)) a82) r4 r5 r6 r7 g) 4 410) rfl rf_m4 ?_
  refine mo_alu hS hc (by decide) mw_90 mw_91 (by decide) (nx := 92) (rg1 := mu (rf r0 ((mu (mu (mu m 407 (m a74)) 11 ((mu m 407 (m a74)) a78)) 12 ((mu (mu m 407 (m a74)) 11 ((mu m 407 (m a74)) a78)) a82)) a86) ((mu m 407 (m a74)) a78) ((mu (mu m 407 (m a74)) 11 ((mu m 407 (m a74)) a78)) a82) 410 r5 r6 r7 g) 4 ((410 + ((mu m 407 (m a74)) a78)) % 65536)) rfl rf_m4 ?_
  refine mo_sto hS hc (by decide) mw_92 mw_93 (ad := 408) (v := ((410 + ((mu m 407 (m a74)) a78)) % 65536)) (by decide) rfl (by omega) rfl ?_
  have hc := mcode_mu (a := 408) (x := ((410 + ((mu m 407 (m a74)) a78)) % 65536)) hc (by omega)
  refine mo_ld hS hc (by decide) mw_94 mw_95 (ad := 403) (v := (m 403)) (by decide) rfl (by omega) ((mu_n _ _ (by decide)).trans ((mu_n _ _ (by decide)).trans ((mu_n _ _ (by decide)).trans ((mu_n _ _ (by decide)).trans (rfl))))) rf_m4 ?_
  refine mo_alu hS hc (by decide) mw_96 mw_97 (by decide) (nx := 98) (rg1 := mu (rf r0 ((mu (mu (mu m 407 (m a74)) 11 ((mu m 407 (m a74)) a78)) 12 ((mu (mu m 407 (m a74)) 11 ((mu m 407 (m a74)) a78)) a82)) a86) ((mu m 407 (m a74)) a78) ((mu (mu m 407 (m a74)) 11 ((mu m 407 (m a74)) a78)) a82) (m 403) r5 r6 r7 g) 2 (if ((mu m 407 (m a74)) a78) < (m 403) then 1 else 0)) rfl rf_m2 ?_
  refine mo_alu hS hc (by decide) mw_98 mw_99 (by decide) (nx := (if (if ((mu m 407 (m a74)) a78) < (m 403) then 1 else 0) = 0 then 134 else 100)) (rg1 := rf r0 ((mu (mu (mu m 407 (m a74)) 11 ((mu m 407 (m a74)) a78)) 12 ((mu (mu m 407 (m a74)) 11 ((mu m 407 (m a74)) a78)) a82)) a86) (if ((mu m 407 (m a74)) a78) < (m 403) then 1 else 0) ((mu (mu m 407 (m a74)) 11 ((mu m 407 (m a74)) a78)) a82) (m 403) r5 r6 r7 g) rfl rfl ?_
  exact kk
theorem bb_100 (hS : 474 ≤ S ∧ S ≤ bo) (hc : mcode m)  (kk : RN S Q k c (0, (if (if ((r4 + 65536 - (m 11)) % 65536) < r3 then 1 else 0) = 0 then 112 else 110), 0, bo, ti, ro, false, rf r0 r1 (if ((r4 + 65536 - (m 11)) % 65536) < r3 then 1 else 0) r3 ((r4 + 65536 - (m 11)) % 65536) r5 r6 r7 g, m, dk, cs)) : RN S Q (k + 5) (c + 5) (0, 100, 0, bo, ti, ro, false, rf r0 r1 r2 r3 r4 r5 r6 r7 g, m, dk, cs) := by
  refine mo_ld hS hc (by decide) mw_100 mw_101 (ad := 11) (v := (m 11)) (by decide) rfl (by omega) (rfl) rf_m2 ?_
  refine mo_alu hS hc (by decide) mw_102 mw_103 (by decide) (nx := 104) (rg1 := mu (rf r0 r1 (m 11) r3 r4 r5 r6 r7 g) 4 ((r4 + 65536 - (m 11)) % 65536)) rfl rf_m4 ?_
  refine mo_alu hS hc (by decide) mw_104 mw_105 (by decide) (nx := 106) (rg1 := mu (rf r0 r1 (m 11) r3 ((r4 + 65536 - (m 11)) % 65536) r5 r6 r7 g) 2 ((r4 + 65536 - (m 11)) % 65536)) rfl rf_m2 ?_
  refine mo_alu hS hc (by decide) mw_106 mw_107 (by decide) (nx := 108) (rg1 := mu (rf r0 r1 ((r4 + 65536 - (m 11)) % 65536) r3 ((r4 + 65536 - (m 11)) % 65536) r5 r6 r7 g) 2 (if ((r4 + 65536 - (m 11)) % 65536) < r3 then 1 else 0)) rfl rf_m2 ?_
  refine mo_alu hS hc (by decide) mw_108 mw_109 (by decide) (nx := (if (if ((r4 + 65536 - (m 11)) % 65536) < r3 then 1 else 0) = 0 then 112 else 110)) (rg1 := rf r0 r1 (if ((r4 + 65536 - (m 11)) % 65536) < r3 then 1 else 0) r3 ((r4 + 65536 - (m 11)) % 65536) r5 r6 r7 g) rfl rfl ?_
  exact kk
theorem bb_110 (hS : 474 ≤ S ∧ S ≤ bo) (hc : mcode m)  (kk : RN S Q k c (0, 112, 0, bo, ti, ro, false, rf r0 r1 r2 r4 r4 r5 r6 r7 g, m, dk, cs)) : RN S Q (k + 1) (c + 1) (0, 110, 0, bo, ti, ro, false, rf r0 r1 r2 r3 r4 r5 r6 r7 g, m, dk, cs) := by
  refine mo_alu hS hc (by decide) mw_110 mw_111 (by decide) (nx := 112) (rg1 := mu (rf r0 r1 r2 r3 r4 r5 r6 r7 g) 3 r4) rfl rf_m3 ?_
  exact kk
theorem bb_112 (hS : 474 ≤ S ∧ S ≤ bo) (hc : mcode m)  (kk : RN S Q k c (0, (if r1 = 0 then 146 else 116), 0, bo, ti, ro, false, rf r0 r1 r2 r3 r4 r5 r6 r7 g, (mu m 409 r3), dk, cs)) : RN S Q (k + 2) (c + 2) (0, 112, 0, bo, ti, ro, false, rf r0 r1 r2 r3 r4 r5 r6 r7 g, m, dk, cs) := by
  refine mo_sto hS hc (by decide) mw_112 mw_113 (ad := 409) (v := r3) (by decide) rfl (by omega) rfl ?_
  have hc := mcode_mu (a := 409) (x := r3) hc (by omega)
  refine mo_alu hS hc (by decide) mw_114 mw_115 (by decide) (nx := (if r1 = 0 then 146 else 116)) (rg1 := rf r0 r1 r2 r3 r4 r5 r6 r7 g) rfl rfl ?_
  exact kk
theorem bb_116 (hS : 474 ≤ S ∧ S ≤ bo) (hc : mcode m)  (kk : RN S Q k c (0, (if r0 = 0 then 138 else 122), 0, bo, ti, ro, false, rf r0 1 r2 r3 r4 r5 r6 r7 g, (mu m 10 1), dk, cs)) : RN S Q (k + 3) (c + 3) (0, 116, 0, bo, ti, ro, false, rf r0 r1 r2 r3 r4 r5 r6 r7 g, m, dk, cs) := by
  refine mo_alu hS hc (by decide) mw_116 mw_117 (by decide) (nx := 118) (rg1 := mu (rf r0 r1 r2 r3 r4 r5 r6 r7 g) 1 1) rfl rf_m1 ?_
  refine mo_sto hS hc (by decide) mw_118 mw_119 (ad := 10) (v := 1) (by decide) rfl (by omega) rfl ?_
  have hc := mcode_mu (a := 10) (x := 1) hc (by omega)
  refine mo_alu hS hc (by decide) mw_120 mw_121 (by decide) (nx := (if r0 = 0 then 138 else 122)) (rg1 := rf r0 1 r2 r3 r4 r5 r6 r7 g) rfl rfl ?_
  exact kk
theorem bb_122 (hS : 474 ≤ S ∧ S ≤ bo) (hc : mcode m)  (kk : RN S Q k c ((if (m 406) = 0 then 0 else 1), (m 407), (m 408), (m 409), ti, ro, false, rf (m 395) (m 396) (m 397) (m 398) (m 399) r5 r6 r7 g, m, dk, cs)) : RN S Q (k + 6) (c + 205) (0, 122, 0, bo, ti, ro, false, rf r0 r1 r2 r3 r4 r5 r6 r7 g, m, dk, cs) := by
  refine mo_ld hS hc (by decide) mw_122 mw_123 (ad := 395) (v := (m 395)) (by decide) rfl (by omega) (rfl) rf_m0 ?_
  refine mo_ld hS hc (by decide) mw_124 mw_125 (ad := 396) (v := (m 396)) (by decide) rfl (by omega) (rfl) rf_m1 ?_
  refine mo_ld hS hc (by decide) mw_126 mw_127 (ad := 397) (v := (m 397)) (by decide) rfl (by omega) (rfl) rf_m2 ?_
  refine mo_ld hS hc (by decide) mw_128 mw_129 (ad := 398) (v := (m 398)) (by decide) rfl (by omega) (rfl) rf_m3 ?_
  refine mo_ld hS hc (by decide) mw_130 mw_131 (ad := 399) (v := (m 399)) (by decide) rfl (by omega) (rfl) rf_m4 ?_
  refine mo_pv hS hc (by decide) mw_132 mw_133 (ad := 406) (ct := 4) (by decide) rfl rfl (by omega) (s' := ((if (m 406) = 0 then 0 else 1), (m 407), (m 408), (m 409), ti, ro, false, rf (m 395) (m 396) (m 397) (m 398) (m 399) r5 r6 r7 g, m, dk, cs)) rfl ?_
  exact kk
theorem bb_134 (hS : 474 ≤ S ∧ S ≤ bo) (hc : mcode m)  (kk : RN S Q k c (0, 112, 0, bo, ti, ro, false, rf r0 r1 r2 0 r4 r5 r6 r7 g, m, dk, cs)) : RN S Q (k + 2) (c + 2) (0, 134, 0, bo, ti, ro, false, rf r0 r1 r2 r3 r4 r5 r6 r7 g, m, dk, cs) := by
  refine mo_alu hS hc (by decide) mw_134 mw_135 (by decide) (nx := 136) (rg1 := mu (rf r0 r1 r2 r3 r4 r5 r6 r7 g) 3 0) rfl rf_m3 ?_
  refine mo_alu hS hc (by decide) mw_136 mw_137 (by decide) (nx := 112) (rg1 := rf r0 r1 r2 0 r4 r5 r6 r7 g) rfl rfl ?_
  exact kk
theorem bb_138 (hS : 474 ≤ S ∧ S ≤ bo) (hc : mcode m)  (kk : RN S Q k c (0, (if (m 13) = 0 then 122 else 142), 0, bo, ti, ro, false, rf r0 (m 13) r2 r3 r4 r5 r6 r7 g, m, dk, cs)) : RN S Q (k + 2) (c + 2) (0, 138, 0, bo, ti, ro, false, rf r0 r1 r2 r3 r4 r5 r6 r7 g, m, dk, cs) := by
  refine mo_ld hS hc (by decide) mw_138 mw_139 (ad := 13) (v := (m 13)) (by decide) rfl (by omega) (rfl) rf_m1 ?_
  refine mo_alu hS hc (by decide) mw_140 mw_141 (by decide) (nx := (if (m 13) = 0 then 122 else 142)) (rg1 := rf r0 (m 13) r2 r3 r4 r5 r6 r7 g) rfl rfl ?_
  exact kk
theorem bb_142 (hS : 474 ≤ S ∧ S ≤ bo) (hc : mcode m)  (kk : RN S Q k c (0, 122, 0, bo, r1, false, false, rf r0 r1 r2 r3 r4 r5 r6 r7 g, m, dk, cs)) : RN S Q (k + 2) (c + 201) (0, 142, 0, bo, ti, ro, false, rf r0 r1 r2 r3 r4 r5 r6 r7 g, m, dk, cs) := by
  refine mo_pv hS hc (by decide) mw_142 mw_143 (ad := 0) (ct := 0) (by decide) rfl rfl (by omega) (s' := (0, 144, 0, bo, r1, false, false, rf r0 r1 r2 r3 r4 r5 r6 r7 g, m, dk, cs)) rfl ?_
  refine mo_alu hS hc (by decide) mw_144 mw_145 (by decide) (nx := 122) (rg1 := rf r0 r1 r2 r3 r4 r5 r6 r7 g) rfl rfl ?_
  exact kk
theorem bb_146 (hS : 474 ≤ S ∧ S ≤ bo) (hc : mcode m)  (kk : RN S Q k c (0, (if r0 = 0 then 122 else 150), 0, bo, ti, ro, false, rf r0 r1 r2 r3 r4 r5 r6 r7 g, (mu m 10 r1), dk, cs)) : RN S Q (k + 2) (c + 2) (0, 146, 0, bo, ti, ro, false, rf r0 r1 r2 r3 r4 r5 r6 r7 g, m, dk, cs) := by
  refine mo_sto hS hc (by decide) mw_146 mw_147 (ad := 10) (v := r1) (by decide) rfl (by omega) rfl ?_
  have hc := mcode_mu (a := 10) (x := r1) hc (by omega)
  refine mo_alu hS hc (by decide) mw_148 mw_149 (by decide) (nx := (if r0 = 0 then 122 else 150)) (rg1 := rf r0 r1 r2 r3 r4 r5 r6 r7 g) rfl rfl ?_
  exact kk
theorem bb_150 (hS : 474 ≤ S ∧ S ≤ bo) (hc : mcode m)  (kk : RN S Q k c (0, (if ti = 0 then 122 else 156), 0, bo, ti, ro, false, rf r0 ti r2 r3 r4 r5 r6 r7 g, (mu m 13 ti), dk, cs)) : RN S Q (k + 3) (c + 202) (0, 150, 0, bo, ti, ro, false, rf r0 r1 r2 r3 r4 r5 r6 r7 g, m, dk, cs) := by
  refine mo_pv hS hc (by decide) mw_150 mw_151 (ad := 0) (ct := 0) (by decide) rfl rfl (by omega) (s' := (0, 152, 0, bo, ti, ro, false, rf r0 ti r2 r3 r4 r5 r6 r7 g, m, dk, cs)) (by show (_, _, _, _, _, _, _, mu _ _ _, _, _, _) = _; rw [rf_m1]) ?_
  refine mo_sto hS hc (by decide) mw_152 mw_153 (ad := 13) (v := ti) (by decide) rfl (by omega) rfl ?_
  have hc := mcode_mu (a := 13) (x := ti) hc (by omega)
  refine mo_alu hS hc (by decide) mw_154 mw_155 (by decide) (nx := (if ti = 0 then 122 else 156)) (rg1 := rf r0 ti r2 r3 r4 r5 r6 r7 g) rfl rfl ?_
  exact kk
theorem bb_156 (hS : 474 ≤ S ∧ S ≤ bo) (hc : mcode m)  (kk : RN S Q k c (0, 122, 0, bo, 0, false, false, rf r0 0 r2 r3 r4 r5 r6 r7 g, m, dk, cs)) : RN S Q (k + 3) (c + 202) (0, 156, 0, bo, ti, ro, false, rf r0 r1 r2 r3 r4 r5 r6 r7 g, m, dk, cs) := by
  refine mo_alu hS hc (by decide) mw_156 mw_157 (by decide) (nx := 158) (rg1 := mu (rf r0 r1 r2 r3 r4 r5 r6 r7 g) 1 0) rfl rf_m1 ?_
  refine mo_pv hS hc (by decide) mw_158 mw_159 (ad := 0) (ct := 0) (by decide) rfl rfl (by omega) (s' := (0, 160, 0, bo, 0, false, false, rf r0 0 r2 r3 r4 r5 r6 r7 g, m, dk, cs)) rfl ?_
  refine mo_alu hS hc (by decide) mw_160 mw_161 (by decide) (nx := 122) (rg1 := rf r0 0 r2 r3 r4 r5 r6 r7 g) rfl rfl ?_
  exact kk
theorem bb_162 (hS : 474 ≤ S ∧ S ≤ bo) (hc : mcode m)  (kk : RN S Q k c (0, (if (((m 8) + 65536 - 1) % 65536) = 0 then 172 else 170), 0, bo, ti, ro, false, rf r0 (((m 8) + 65536 - 1) % 65536) 1 r3 r4 r5 r6 r7 g, m, dk, cs)) : RN S Q (k + 4) (c + 4) (0, 162, 0, bo, ti, ro, false, rf r0 r1 r2 r3 r4 r5 r6 r7 g, m, dk, cs) := by
  refine mo_ld hS hc (by decide) mw_162 mw_163 (ad := 8) (v := (m 8)) (by decide) rfl (by omega) (rfl) rf_m1 ?_
  refine mo_alu hS hc (by decide) mw_164 mw_165 (by decide) (nx := 166) (rg1 := mu (rf r0 (m 8) r2 r3 r4 r5 r6 r7 g) 2 1) rfl rf_m2 ?_
  refine mo_alu hS hc (by decide) mw_166 mw_167 (by decide) (nx := 168) (rg1 := mu (rf r0 (m 8) 1 r3 r4 r5 r6 r7 g) 1 (((m 8) + 65536 - 1) % 65536)) rfl rf_m1 ?_
  refine mo_alu hS hc (by decide) mw_168 mw_169 (by decide) (nx := (if (((m 8) + 65536 - 1) % 65536) = 0 then 172 else 170)) (rg1 := rf r0 (((m 8) + 65536 - 1) % 65536) 1 r3 r4 r5 r6 r7 g) rfl rfl ?_
  exact kk
theorem bb_170 (hS : 474 ≤ S ∧ S ≤ bo) (hc : mcode m)  (kk : RN S Q k c (0, 50, 0, bo, ti, ro, false, rf r0 r1 r2 r3 r4 r5 r6 r7 g, m, dk, cs)) : RN S Q (k + 1) (c + 1) (0, 170, 0, bo, ti, ro, false, rf r0 r1 r2 r3 r4 r5 r6 r7 g, m, dk, cs) := by
  refine mo_alu hS hc (by decide) mw_170 mw_171 (by decide) (nx := 50) (rg1 := rf r0 r1 r2 r3 r4 r5 r6 r7 g) rfl rfl ?_
  exact kk
theorem bb_172 (hS : 474 ≤ S ∧ S ≤ bo) (hc : mcode m) {a176 : Nat} (e176 : ((mc_sh (m 9) 22) + 370) % 65536 = a176) (b176 : a176 < S) (kk : RN S Q k c (0, (m a176), 0, bo, ti, ro, false, rf r0 (m a176) r2 r3 r4 r5 r6 r7 g, m, dk, cs)) : RN S Q (k + 4) (c + 4) (0, 172, 0, bo, ti, ro, false, rf r0 r1 r2 r3 r4 r5 r6 r7 g, m, dk, cs) := by
  refine mo_ld hS hc (by decide) mw_172 mw_173 (ad := 9) (v := (m 9)) (by decide) rfl (by omega) (rfl) rf_m1 ?_
  refine mo_alu hS hc (by decide) mw_174 mw_175 (by decide) (nx := 176) (rg1 := mu (rf r0 (m 9) r2 r3 r4 r5 r6 r7 g) 1 (mc_sh (m 9) 22)) rfl rf_m1 ?_
  refine mo_ld hS hc (by decide) mw_176 mw_177 (ad := a176) (v := (m a176)) (by decide) e176 b176 rfl rf_m1 ?_
  refine mo_alu hS hc (by decide) mw_178 mw_179 (by decide) (nx := (m a176)) (rg1 := rf r0 (m a176) r2 r3 r4 r5 r6 r7 g) rfl rfl ?_
  exact kk
theorem bb_180 (hS : 474 ≤ S ∧ S ≤ bo) (hc : mcode m)  (kk : RN S Q k c (0, 190, 0, bo, ti, ro, true, rf (m 395) (m 396) (m 397) (m 398) (m 399) r5 r6 r7 g, m, dk, cs)) : RN S Q (k + 6) (c + 205) (0, 180, 0, bo, ti, ro, false, rf r0 r1 r2 r3 r4 r5 r6 r7 g, m, dk, cs) := by
  refine mo_ld hS hc (by decide) mw_180 mw_181 (ad := 395) (v := (m 395)) (by decide) rfl (by omega) (rfl) rf_m0 ?_
  refine mo_ld hS hc (by decide) mw_182 mw_183 (ad := 396) (v := (m 396)) (by decide) rfl (by omega) (rfl) rf_m1 ?_
  refine mo_ld hS hc (by decide) mw_184 mw_185 (ad := 397) (v := (m 397)) (by decide) rfl (by omega) (rfl) rf_m2 ?_
  refine mo_ld hS hc (by decide) mw_186 mw_187 (ad := 398) (v := (m 398)) (by decide) rfl (by omega) (rfl) rf_m3 ?_
  refine mo_ld hS hc (by decide) mw_188 mw_189 (ad := 399) (v := (m 399)) (by decide) rfl (by omega) (rfl) rf_m4 ?_
  refine mo_pv hS hc (by decide) mw_190 mw_191 (ad := 0) (ct := 0) (by decide) rfl rfl (by omega) rfl ?_
  exact kk
theorem bb_192 (hS : 474 ≤ S ∧ S ≤ bo) (hc : mcode m)  (kk : RN S Q k c (0, 328, 0, bo, ti, ro, false, rf r0 r1 0 198 3 r5 r6 r7 g, m, dk, cs)) : RN S Q (k + 3) (c + 3) (0, 192, 0, bo, ti, ro, false, rf r0 r1 r2 r3 r4 r5 r6 r7 g, m, dk, cs) := by
  refine mo_alu hS hc (by decide) mw_192 mw_193 (by decide) (nx := 194) (rg1 := mu (rf r0 r1 r2 r3 r4 r5 r6 r7 g) 2 0) rfl rf_m2 ?_
  refine mo_alu hS hc (by decide) mw_194 mw_195 (by decide) (nx := 196) (rg1 := mu (rf r0 r1 0 r3 r4 r5 r6 r7 g) 4 3) rfl rf_m4 ?_
  refine mo_alu hS hc (by decide) mw_196 mw_197 (by decide) (nx := 328) (rg1 := mu (rf r0 r1 0 r3 3 r5 r6 r7 g) 3 198) rfl rf_m3 ?_
  exact kk
theorem bb_198 (hS : 474 ≤ S ∧ S ≤ bo) (hc : mcode m)  (kk : RN S Q k c (0, 74, 0, bo, ti, ro, false, rf 0 r1 r2 r3 r4 r5 r6 r7 g, m, dk, cs)) : RN S Q (k + 2) (c + 2) (0, 198, 0, bo, ti, ro, false, rf r0 r1 r2 r3 r4 r5 r6 r7 g, m, dk, cs) := by
  refine mo_alu hS hc (by decide) mw_198 mw_199 (by decide) (nx := 200) (rg1 := mu (rf r0 r1 r2 r3 r4 r5 r6 r7 g) 0 0) rfl rf_m0 ?_
  refine mo_alu hS hc (by decide) mw_200 mw_201 (by decide) (nx := 74) (rg1 := rf 0 r1 r2 r3 r4 r5 r6 r7 g) rfl rfl ?_
  exact kk
theorem bb_202 (hS : 474 ≤ S ∧ S ≤ bo) (hc : mcode m)  (kk : RN S Q k c (0, 328, 0, bo, ti, ro, false, rf r0 r1 0 208 3 r5 r6 r7 g, m, dk, cs)) : RN S Q (k + 3) (c + 3) (0, 202, 0, bo, ti, ro, false, rf r0 r1 r2 r3 r4 r5 r6 r7 g, m, dk, cs) := by
  refine mo_alu hS hc (by decide) mw_202 mw_203 (by decide) (nx := 204) (rg1 := mu (rf r0 r1 r2 r3 r4 r5 r6 r7 g) 2 0) rfl rf_m2 ?_
  refine mo_alu hS hc (by decide) mw_204 mw_205 (by decide) (nx := 206) (rg1 := mu (rf r0 r1 0 r3 r4 r5 r6 r7 g) 4 3) rfl rf_m4 ?_
  refine mo_alu hS hc (by decide) mw_206 mw_207 (by decide) (nx := 328) (rg1 := mu (rf r0 r1 0 r3 3 r5 r6 r7 g) 3 208) rfl rf_m3 ?_
  exact kk
theorem bb_208 (hS : 474 ≤ S ∧ S ≤ bo) (hc : mcode m) {a210 : Nat} (e210 : (r1 + 0) % 65536 = a210) (b210 : a210 < S) (n210 : 395 ≤ a210) {a218 : Nat} (e218 : (r1 + 1) % 65536 = a218) (b218 : a218 < S) (n218 : 395 ≤ a218) {a222 : Nat} (e222 : (r1 + 2) % 65536 = a222) (b222 : a222 < S) (n222 : 395 ≤ a222) {a226 : Nat} (e226 : (r1 + 3) % 65536 = a226) (b226 : a226 < S) (n226 : 395 ≤ a226) (kk : RN S Q k c (0, 276, 0, bo, ti, ro, false, rf r0 r1 (m 12) 2 r4 r5 r6 r7 g, (mu (mu (mu (mu m a210 0) a218 (((m 1) + 2) % 65536)) a222 (m 11)) a226 (m 12)), dk, cs)) : RN S Q (k + 11) (c + 11) (0, 208, 0, bo, ti, ro, false, rf r0 r1 r2 r3 r4 r5 r6 r7 g, m, dk, cs) := by
  refine mo_alu hS hc (by decide) mw_208 mw_209 (by decide) (nx := 210) (rg1 := mu (rf r0 r1 r2 r3 r4 r5 r6 r7 g) 2 0) rfl rf_m2 ?_
  refine mo_sto hS hc (by decide) mw_210 mw_211 (ad := a210) (v := 0) (by decide) e210 b210 rfl ?_
  have hc := mcode_mu (a := a210) (x := 0) hc (by omega)
  refine mo_ld hS hc (by decide) mw_212 mw_213 (ad := 1) (v := (m 1)) (by decide) rfl (by omega) ((mu_n _ _ (by omega)).trans (rfl)) rf_m2 ?_
  refine mo_alu hS hc (by decide) mw_214 mw_215 (by decide) (nx := 216) (rg1 := mu (rf r0 r1 (m 1) r3 r4 r5 r6 r7 g) 3 2) rfl rf_m3 ?_
  refine mo_alu hS hc (by decide) mw_216 mw_217 (by decide) (nx := 218) (rg1 := mu (rf r0 r1 (m 1) 2 r4 r5 r6 r7 g) 2 (((m 1) + 2) % 65536)) rfl rf_m2 ?_
  refine mo_sto hS hc (by decide) mw_218 mw_219 (ad := a218) (v := (((m 1) + 2) % 65536)) (by decide) e218 b218 rfl ?_
  have hc := mcode_mu (a := a218) (x := (((m 1) + 2) % 65536)) hc (by omega)
  refine mo_ld hS hc (by decide) mw_220 mw_221 (ad := 11) (v := (m 11)) (by decide) rfl (by omega) ((mu_n _ _ (by omega)).trans ((mu_n _ _ (by omega)).trans (rfl))) rf_m2 ?_
  refine mo_sto hS hc (by decide) mw_222 mw_223 (ad := a222) (v := (m 11)) (by decide) e222 b222 rfl ?_
  have hc := mcode_mu (a := a222) (x := (m 11)) hc (by omega)
  refine mo_ld hS hc (by decide) mw_224 mw_225 (ad := 12) (v := (m 12)) (by decide) rfl (by omega) ((mu_n _ _ (by omega)).trans ((mu_n _ _ (by omega)).trans ((mu_n _ _ (by omega)).trans (rfl)))) rf_m2 ?_
  refine mo_sto hS hc (by decide) mw_226 mw_227 (ad := a226) (v := (m 12)) (by decide) e226 b226 rfl ?_
  have hc := mcode_mu (a := a226) (x := (m 12)) hc (by omega)
  refine mo_alu hS hc (by decide) mw_228 mw_229 (by decide) (nx := 276) (rg1 := rf r0 r1 (m 12) 2 r4 r5 r6 r7 g) rfl rfl ?_
  exact kk
theorem bb_230 (hS : 474 ≤ S ∧ S ≤ bo) (hc : mcode m)  (kk : RN S Q k c (0, 286, 0, bo, ti, ro, false, rf r0 r1 r2 232 r4 r5 r6 r7 g, m, dk, cs)) : RN S Q (k + 1) (c + 1) (0, 230, 0, bo, ti, ro, false, rf r0 r1 r2 r3 r4 r5 r6 r7 g, m, dk, cs) := by
  refine mo_alu hS hc (by decide) mw_230 mw_231 (by decide) (nx := 286) (rg1 := mu (rf r0 r1 r2 r3 r4 r5 r6 r7 g) 3 232) rfl rf_m3 ?_
  exact kk
theorem bb_232 (hS : 474 ≤ S ∧ S ≤ bo) (hc : mcode m) {a232 : Nat} (e232 : (r1 + 395) % 65536 = a232) (b232 : a232 < S) (kk : RN S Q k c (0, 276, 0, bo, ti, ro, false, rf r0 r1 (m a232) r3 r4 r5 r6 r7 g, (mu m 13 (m a232)), dk, cs)) : RN S Q (k + 3) (c + 3) (0, 232, 0, bo, ti, ro, false, rf r0 r1 r2 r3 r4 r5 r6 r7 g, m, dk, cs) := by
  refine mo_ld hS hc (by decide) mw_232 mw_233 (ad := a232) (v := (m a232)) (by decide) e232 b232 rfl rf_m2 ?_
  refine mo_sto hS hc (by decide) mw_234 mw_235 (ad := 13) (v := (m a232)) (by decide) rfl (by omega) rfl ?_
  have hc := mcode_mu (a := 13) (x := (m a232)) hc (by omega)
  refine mo_alu hS hc (by decide) mw_236 mw_237 (by decide) (nx := 276) (rg1 := rf r0 r1 (m a232) r3 r4 r5 r6 r7 g) rfl rfl ?_
  exact kk
theorem bb_238 (hS : 474 ≤ S ∧ S ≤ bo) (hc : mcode m)  (kk : RN S Q k c (0, 286, 0, bo, ti, ro, false, rf r0 r1 r2 240 r4 r5 r6 r7 g, m, dk, cs)) : RN S Q (k + 1) (c + 1) (0, 238, 0, bo, ti, ro, false, rf r0 r1 r2 r3 r4 r5 r6 r7 g, m, dk, cs) := by
  refine mo_alu hS hc (by decide) mw_238 mw_239 (by decide) (nx := 286) (rg1 := mu (rf r0 r1 r2 r3 r4 r5 r6 r7 g) 3 240) rfl rf_m3 ?_
  exact kk
theorem bb_240 (hS : 474 ≤ S ∧ S ≤ bo) (hc : mcode m)  (kk : RN S Q k c (0, 248, 0, bo, ti, ro, false, rf r0 r1 (m 13) r3 r4 r5 r6 r7 g, m, dk, cs)) : RN S Q (k + 2) (c + 2) (0, 240, 0, bo, ti, ro, false, rf r0 r1 r2 r3 r4 r5 r6 r7 g, m, dk, cs) := by
  refine mo_ld hS hc (by decide) mw_240 mw_241 (ad := 13) (v := (m 13)) (by decide) rfl (by omega) (rfl) rf_m2 ?_
  refine mo_alu hS hc (by decide) mw_242 mw_243 (by decide) (nx := 248) (rg1 := rf r0 r1 (m 13) r3 r4 r5 r6 r7 g) rfl rfl ?_
  exact kk
theorem bb_244 (hS : 474 ≤ S ∧ S ≤ bo) (hc : mcode m)  (kk : RN S Q k c (0, 286, 0, bo, ti, ro, false, rf r0 r1 r2 246 r4 r5 r6 r7 g, m, dk, cs)) : RN S Q (k + 1) (c + 1) (0, 244, 0, bo, ti, ro, false, rf r0 r1 r2 r3 r4 r5 r6 r7 g, m, dk, cs) := by
  refine mo_alu hS hc (by decide) mw_244 mw_245 (by decide) (nx := 286) (rg1 := mu (rf r0 r1 r2 r3 r4 r5 r6 r7 g) 3 246) rfl rf_m3 ?_
  exact kk
theorem bb_246 (hS : 474 ≤ S ∧ S ≤ bo) (hc : mcode m)  (kk : RN S Q k c (0, 248, 0, bo, ti, ro, false, rf r0 r1 ((mc_in cs).1) r3 r4 r5 r6 r7 g, m, dk, (mc_in cs).2)) : RN S Q (k + 1) (c + 200) (0, 246, 0, bo, ti, ro, false, rf r0 r1 r2 r3 r4 r5 r6 r7 g, m, dk, cs) := by
  refine mo_pv hS hc (by decide) mw_246 mw_247 (ad := 0) (ct := 0) (by decide) rfl rfl (by omega) (s' := (0, 248, 0, bo, ti, ro, false, rf r0 r1 ((mc_in cs).1) r3 r4 r5 r6 r7 g, m, dk, (mc_in cs).2)) (by show (_, _, _, _, _, _, _, mu _ _ _, _, _, _) = _; rw [rf_m2]) ?_
  exact kk
theorem bb_248 (hS : 474 ≤ S ∧ S ≤ bo) (hc : mcode m) {a248 : Nat} (e248 : (r1 + 395) % 65536 = a248) (b248 : a248 < S) (n248 : 395 ≤ a248) (kk : RN S Q k c (0, 276, 0, bo, ti, ro, false, rf r0 r1 r2 r3 r4 ((mu m a248 r2) 400) ((mu m a248 r2) 401) ((mu m a248 r2) 402) g, (mu m a248 r2), dk, cs)) : RN S Q (k + 5) (c + 5) (0, 248, 0, bo, ti, ro, false, rf r0 r1 r2 r3 r4 r5 r6 r7 g, m, dk, cs) := by
  refine mo_sto hS hc (by decide) mw_248 mw_249 (ad := a248) (v := r2) (by decide) e248 b248 rfl ?_
  have hc := mcode_mu (a := a248) (x := r2) hc (by omega)
  refine mo_ld hS hc (by decide) mw_250 mw_251 (ad := 400) (v := ((mu m a248 r2) 400)) (by decide) rfl (by omega) (rfl) rf_m5 ?_
  refine mo_ld hS hc (by decide) mw_252 mw_253 (ad := 401) (v := ((mu m a248 r2) 401)) (by decide) rfl (by omega) (rfl) rf_m6 ?_
  refine mo_ld hS hc (by decide) mw_254 mw_255 (ad := 402) (v := ((mu m a248 r2) 402)) (by decide) rfl (by omega) (rfl) rf_m7 ?_
  refine mo_alu hS hc (by decide) mw_256 mw_257 (by decide) (nx := 276) (rg1 := rf r0 r1 r2 r3 r4 ((mu m a248 r2) 400) ((mu m a248 r2) 401) ((mu m a248 r2) 402) g) rfl rfl ?_
  exact kk
theorem bb_258 (hS : 474 ≤ S ∧ S ≤ bo) (hc : mcode m)  (kk : RN S Q k c (0, 286, 0, bo, ti, ro, false, rf r0 r1 r2 260 r4 r5 r6 r7 g, m, dk, cs)) : RN S Q (k + 1) (c + 1) (0, 258, 0, bo, ti, ro, false, rf r0 r1 r2 r3 r4 r5 r6 r7 g, m, dk, cs) := by
  refine mo_alu hS hc (by decide) mw_258 mw_259 (by decide) (nx := 286) (rg1 := mu (rf r0 r1 r2 r3 r4 r5 r6 r7 g) 3 260) rfl rf_m3 ?_
  exact kk
theorem bb_260 (hS : 474 ≤ S ∧ S ≤ bo) (hc : mcode m) {a260 : Nat} (e260 : (r1 + 395) % 65536 = a260) (b260 : a260 < S) (kk : RN S Q k c (0, 276, 0, bo, ti, ro, false, rf r0 r1 (m a260) r3 r4 r5 r6 r7 g, m, dk, (mc_out cs ((m a260) % 256)))) : RN S Q (k + 3) (c + 202) (0, 260, 0, bo, ti, ro, false, rf r0 r1 r2 r3 r4 r5 r6 r7 g, m, dk, cs) := by
  refine mo_ld hS hc (by decide) mw_260 mw_261 (ad := a260) (v := (m a260)) (by decide) e260 b260 rfl rf_m2 ?_
  refine mo_pv hS hc (by decide) mw_262 mw_263 (ad := 0) (ct := 0) (by decide) rfl rfl (by omega) (s' := (0, 264, 0, bo, ti, ro, false, rf r0 r1 (m a260) r3 r4 r5 r6 r7 g, m, dk, (mc_out cs ((m a260) % 256)))) rfl ?_
  refine mo_alu hS hc (by decide) mw_264 mw_265 (by decide) (nx := 276) (rg1 := rf r0 r1 (m a260) r3 r4 r5 r6 r7 g) rfl rfl ?_
  exact kk
theorem bb_266 (hS : 474 ≤ S ∧ S ≤ bo) (hc : mcode m)  (kk : RN S Q k c (0, 302, 0, bo, ti, ro, false, rf r0 r1 r2 268 r4 r5 r6 r7 g, m, dk, cs)) : RN S Q (k + 1) (c + 1) (0, 266, 0, bo, ti, ro, false, rf r0 r1 r2 r3 r4 r5 r6 r7 g, m, dk, cs) := by
  refine mo_alu hS hc (by decide) mw_266 mw_267 (by decide) (nx := 302) (rg1 := mu (rf r0 r1 r2 r3 r4 r5 r6 r7 g) 3 268) rfl rf_m3 ?_
  exact kk
theorem bb_268 (hS : 474 ≤ S ∧ S ≤ bo) (hc : mcode m) {a268 : Nat} (e268 : (r1 + 0) % 65536 = a268) (b268 : a268 + 15 < S) (n268 : 395 ≤ a268) (kk : RN S Q k c (0, 270, 0, bo, ti, ro, false, rf r0 r1 r2 r3 r4 r5 r6 r7 g, va_cpy dk m (r2 % 8 * 16) a268 16, dk, cs)) : RN S Q (k + 1) (c + 200) (0, 268, 0, bo, ti, ro, false, rf r0 r1 r2 r3 r4 r5 r6 r7 g, m, dk, cs) := by
  refine mo_pv hS hc (by decide) mw_268 mw_269 (ad := a268) (ct := 16) (by decide) e268 rfl (by omega) (s' := (0, 270, 0, bo, ti, ro, false, rf r0 r1 r2 r3 r4 r5 r6 r7 g, va_cpy dk m (r2 % 8 * 16) a268 16, dk, cs)) (by show (_, _, _, _, _, _, _, _, _, _, _) = _; simp only [Nat.zero_add]; rfl) ?_
  exact kk
theorem bb_272 (hS : 474 ≤ S ∧ S ≤ bo) (hc : mcode m)  (kk : RN S Q k c (0, 302, 0, bo, ti, ro, false, rf r0 r1 r2 274 r4 r5 r6 r7 g, m, dk, cs)) : RN S Q (k + 1) (c + 1) (0, 272, 0, bo, ti, ro, false, rf r0 r1 r2 r3 r4 r5 r6 r7 g, m, dk, cs) := by
  refine mo_alu hS hc (by decide) mw_272 mw_273 (by decide) (nx := 302) (rg1 := mu (rf r0 r1 r2 r3 r4 r5 r6 r7 g) 3 274) rfl rf_m3 ?_
  exact kk
theorem bb_274 (hS : 474 ≤ S ∧ S ≤ bo) (hc : mcode m) {a274 : Nat} (e274 : (r1 + 0) % 65536 = a274) (b274 : a274 + 15 < S) (n274 : 395 ≤ a274) (kk : RN S Q k c (0, 276, 0, bo, ti, ro, false, rf r0 r1 r2 r3 r4 r5 r6 r7 g, m, va_cpy m dk a274 (r2 % 8 * 16) 16, cs)) : RN S Q (k + 1) (c + 200) (0, 274, 0, bo, ti, ro, false, rf r0 r1 r2 r3 r4 r5 r6 r7 g, m, dk, cs) := by
  refine mo_pv hS hc (by decide) mw_274 mw_275 (ad := a274) (ct := 16) (by decide) e274 rfl (by omega) (s' := (0, 276, 0, bo, ti, ro, false, rf r0 r1 r2 r3 r4 r5 r6 r7 g, m, va_cpy m dk a274 (r2 % 8 * 16) 16, cs)) (by show (_, _, _, _, _, _, _, _, _, _, _) = _; simp only [Nat.zero_add]; rfl) ?_
  exact kk
theorem bb_276 (hS : 474 ≤ S ∧ S ≤ bo) (hc : mcode m)  (kk : RN S Q k c (0, 122, 0, bo, ti, ro, false, rf r0 (((m 1) + 2) % 65536) 2 r3 r4 r5 r6 r7 g, (mu m 407 (((m 1) + 2) % 65536)), dk, cs)) : RN S Q (k + 5) (c + 5) (0, 276, 0, bo, ti, ro, false, rf r0 r1 r2 r3 r4 r5 r6 r7 g, m, dk, cs) := by
  refine mo_ld hS hc (by decide) mw_276 mw_277 (ad := 1) (v := (m 1)) (by decide) rfl (by omega) (rfl) rf_m1 ?_
  refine mo_alu hS hc (by decide) mw_278 mw_279 (by decide) (nx := 280) (rg1 := mu (rf r0 (m 1) r2 r3 r4 r5 r6 r7 g) 2 2) rfl rf_m2 ?_
  refine mo_alu hS hc (by decide) mw_280 mw_281 (by decide) (nx := 282) (rg1 := mu (rf r0 (m 1) 2 r3 r4 r5 r6 r7 g) 1 (((m 1) + 2) % 65536)) rfl rf_m1 ?_
  refine mo_sto hS hc (by decide) mw_282 mw_283 (ad := 407) (v := (((m 1) + 2) % 65536)) (by decide) rfl (by omega) rfl ?_
  have hc := mcode_mu (a := 407) (x := (((m 1) + 2) % 65536)) hc (by omega)
  refine mo_alu hS hc (by decide) mw_284 mw_285 (by decide) (nx := 122) (rg1 := rf r0 (((m 1) + 2) % 65536) 2 r3 r4 r5 r6 r7 g) rfl rfl ?_
  exact kk
theorem bb_286 (hS : 474 ≤ S ∧ S ≤ bo) (hc : mcode m)  (kk : RN S Q k c (0, r3, 0, bo, ti, ro, false, rf r0 ((mc_sh (m 9) 19) &&& 7) 7 r3 r4 r5 r6 r7 g, (mu (mu (mu m 400 r5) 401 r6) 402 r7), dk, cs)) : RN S Q (k + 8) (c + 8) (0, 286, 0, bo, ti, ro, false, rf r0 r1 r2 r3 r4 r5 r6 r7 g, m, dk, cs) := by
  refine mo_sto hS hc (by decide) mw_286 mw_287 (ad := 400) (v := r5) (by decide) rfl (by omega) rfl ?_
  have hc := mcode_mu (a := 400) (x := r5) hc (by omega)
  refine mo_sto hS hc (by decide) mw_288 mw_289 (ad := 401) (v := r6) (by decide) rfl (by omega) rfl ?_
  have hc := mcode_mu (a := 401) (x := r6) hc (by omega)
  refine mo_sto hS hc (by decide) mw_290 mw_291 (ad := 402) (v := r7) (by decide) rfl (by omega) rfl ?_
  have hc := mcode_mu (a := 402) (x := r7) hc (by omega)
  refine mo_ld hS hc (by decide) mw_292 mw_293 (ad := 9) (v := (m 9)) (by decide) rfl (by omega) ((mu_n _ _ (by decide)).trans ((mu_n _ _ (by decide)).trans ((mu_n _ _ (by decide)).trans (rfl)))) rf_m1 ?_
  refine mo_alu hS hc (by decide) mw_294 mw_295 (by decide) (nx := 296) (rg1 := mu (rf r0 (m 9) r2 r3 r4 r5 r6 r7 g) 1 (mc_sh (m 9) 19)) rfl rf_m1 ?_
  refine mo_alu hS hc (by decide) mw_296 mw_297 (by decide) (nx := 298) (rg1 := mu (rf r0 (mc_sh (m 9) 19) r2 r3 r4 r5 r6 r7 g) 2 7) rfl rf_m2 ?_
  refine mo_alu hS hc (by decide) mw_298 mw_299 (by decide) (nx := 300) (rg1 := mu (rf r0 (mc_sh (m 9) 19) 7 r3 r4 r5 r6 r7 g) 1 ((mc_sh (m 9) 19) &&& 7)) rfl rf_m1 ?_
  refine mo_alu hS hc (by decide) mw_300 mw_301 (by decide) (nx := r3) (rg1 := rf r0 ((mc_sh (m 9) 19) &&& 7) 7 r3 r4 r5 r6 r7 g) rfl rfl ?_
  exact kk
theorem bb_302 (hS : 474 ≤ S ∧ S ≤ bo) (hc : mcode m)  (kk : RN S Q k c (0, 286, 0, bo, ti, ro, false, rf r0 r1 r2 306 r4 r5 r6 r7 g, (mu m 404 r3), dk, cs)) : RN S Q (k + 2) (c + 2) (0, 302, 0, bo, ti, ro, false, rf r0 r1 r2 r3 r4 r5 r6 r7 g, m, dk, cs) := by
  refine mo_sto hS hc (by decide) mw_302 mw_303 (ad := 404) (v := r3) (by decide) rfl (by omega) rfl ?_
  have hc := mcode_mu (a := 404) (x := r3) hc (by omega)
  refine mo_alu hS hc (by decide) mw_304 mw_305 (by decide) (nx := 286) (rg1 := mu (rf r0 r1 r2 r3 r4 r5 r6 r7 g) 3 306) rfl rf_m3 ?_
  exact kk
theorem bb_306 (hS : 474 ≤ S ∧ S ≤ bo) (hc : mcode m) {a306 : Nat} (e306 : (r1 + 395) % 65536 = a306) (b306 : a306 < S) {a316 : Nat} (e316 : (((m 9) &&& 7) + 395) % 65536 = a316) (b316 : a316 < S) (kk : RN S Q k c (0, 328, 0, bo, ti, ro, false, rf r0 r1 ((mu m 405 (m a306)) a316) 322 15 r5 r6 r7 g, (mu m 405 (m a306)), dk, cs)) : RN S Q (k + 8) (c + 8) (0, 306, 0, bo, ti, ro, false, rf r0 r1 r2 r3 r4 r5 r6 r7 g, m, dk, cs) := by
  refine mo_ld hS hc (by decide) mw_306 mw_307 (ad := a306) (v := (m a306)) (by decide) e306 b306 rfl rf_m2 ?_
  refine mo_sto hS hc (by decide) mw_308 mw_309 (ad := 405) (v := (m a306)) (by decide) rfl (by omega) rfl ?_
  have hc := mcode_mu (a := 405) (x := (m a306)) hc (by omega)
  refine mo_ld hS hc (by decide) mw_310 mw_311 (ad := 9) (v := (m 9)) (by decide) rfl (by omega) ((mu_n _ _ (by decide)).trans (rfl)) rf_m2 ?_
  refine mo_alu hS hc (by decide) mw_312 mw_313 (by decide) (nx := 314) (rg1 := mu (rf r0 r1 (m 9) r3 r4 r5 r6 r7 g) 4 7) rfl rf_m4 ?_
  refine mo_alu hS hc (by decide) mw_314 mw_315 (by decide) (nx := 316) (rg1 := mu (rf r0 r1 (m 9) r3 7 r5 r6 r7 g) 2 ((m 9) &&& 7)) rfl rf_m2 ?_
  refine mo_ld hS hc (by decide) mw_316 mw_317 (ad := a316) (v := ((mu m 405 (m a306)) a316)) (by decide) e316 b316 rfl rf_m2 ?_
  refine mo_alu hS hc (by decide) mw_318 mw_319 (by decide) (nx := 320) (rg1 := mu (rf r0 r1 ((mu m 405 (m a306)) a316) r3 7 r5 r6 r7 g) 4 15) rfl rf_m4 ?_
  refine mo_alu hS hc (by decide) mw_320 mw_321 (by decide) (nx := 328) (rg1 := mu (rf r0 r1 ((mu m 405 (m a306)) a316) r3 15 r5 r6 r7 g) 3 322) rfl rf_m3 ?_
  exact kk
theorem bb_322 (hS : 474 ≤ S ∧ S ≤ bo) (hc : mcode m)  (kk : RN S Q k c (0, (m 404), 0, bo, ti, ro, false, rf r0 r1 (m 405) (m 404) r4 r5 r6 r7 g, m, dk, cs)) : RN S Q (k + 3) (c + 3) (0, 322, 0, bo, ti, ro, false, rf r0 r1 r2 r3 r4 r5 r6 r7 g, m, dk, cs) := by
  refine mo_ld hS hc (by decide) mw_322 mw_323 (ad := 405) (v := (m 405)) (by decide) rfl (by omega) (rfl) rf_m2 ?_
  refine mo_ld hS hc (by decide) mw_324 mw_325 (ad := 404) (v := (m 404)) (by decide) rfl (by omega) (rfl) rf_m3 ?_
  refine mo_alu hS hc (by decide) mw_326 mw_327 (by decide) (nx := (m 404)) (rg1 := rf r0 r1 (m 405) (m 404) r4 r5 r6 r7 g) rfl rfl ?_
  exact kk
theorem bb_328 (hS : 474 ≤ S ∧ S ≤ bo) (hc : mcode m) {a334 : Nat} (e334 : ((((m 408) + (m 1)) % 65536) + 1) % 65536 = a334) (b334 : a334 < S) (kk : RN S Q k c (0, (if (if (((m a334) + r2) % 65536) < (m 409) then 1 else 0) = 0 then 360 else 346), 0, bo, ti, ro, false, rf (if (((m a334) + r2) % 65536) < (m 409) then 1 else 0) (((m a334) + r2) % 65536) (m 409) r3 r4 r5 r6 r7 g, m, dk, cs)) : RN S Q (k + 9) (c + 9) (0, 328, 0, bo, ti, ro, false, rf r0 r1 r2 r3 r4 r5 r6 r7 g, m, dk, cs) := by
  refine mo_ld hS hc (by decide) mw_328 mw_329 (ad := 408) (v := (m 408)) (by decide) rfl (by omega) (rfl) rf_m1 ?_
  refine mo_ld hS hc (by decide) mw_330 mw_331 (ad := 1) (v := (m 1)) (by decide) rfl (by omega) (rfl) rf_m0 ?_
  refine mo_alu hS hc (by decide) mw_332 mw_333 (by decide) (nx := 334) (rg1 := mu (rf (m 1) (m 408) r2 r3 r4 r5 r6 r7 g) 1 (((m 408) + (m 1)) % 65536)) rfl rf_m1 ?_
  refine mo_ld hS hc (by decide) mw_334 mw_335 (ad := a334) (v := (m a334)) (by decide) e334 b334 rfl rf_m1 ?_
  refine mo_alu hS hc (by decide) mw_336 mw_337 (by decide) (nx := 338) (rg1 := mu (rf (m 1) (m a334) r2 r3 r4 r5 r6 r7 g) 1 (((m a334) + r2) % 65536)) rfl rf_m1 ?_
  refine mo_ld hS hc (by decide) mw_338 mw_339 (ad := 409) (v := (m 409)) (by decide) rfl (by omega) (rfl) rf_m2 ?_
  refine mo_alu hS hc (by decide) mw_340 mw_341 (by decide) (nx := 342) (rg1 := mu (rf (m 1) (((m a334) + r2) % 65536) (m 409) r3 r4 r5 r6 r7 g) 0 (((m a334) + r2) % 65536)) rfl rf_m0 ?_
  refine mo_alu hS hc (by decide) mw_342 mw_343 (by decide) (nx := 344) (rg1 := mu (rf (((m a334) + r2) % 65536) (((m a334) + r2) % 65536) (m 409) r3 r4 r5 r6 r7 g) 0 (if (((m a334) + r2) % 65536) < (m 409) then 1 else 0)) rfl rf_m0 ?_
  refine mo_alu hS hc (by decide) mw_344 mw_345 (by decide) (nx := (if (if (((m a334) + r2) % 65536) < (m 409) then 1 else 0) = 0 then 360 else 346)) (rg1 := rf (if (((m a334) + r2) % 65536) < (m 409) then 1 else 0) (((m a334) + r2) % 65536) (m 409) r3 r4 r5 r6 r7 g) rfl rfl ?_
  exact kk
theorem bb_346 (hS : 474 ≤ S ∧ S ≤ bo) (hc : mcode m)  (kk : RN S Q k c (0, (if (if ((r4 + r1) % 65536) < r2 then 1 else 0) = 0 then 358 else 352), 0, bo, ti, ro, false, rf r0 r1 r2 r3 (if ((r4 + r1) % 65536) < r2 then 1 else 0) r5 r6 r7 g, m, dk, cs)) : RN S Q (k + 3) (c + 3) (0, 346, 0, bo, ti, ro, false, rf r0 r1 r2 r3 r4 r5 r6 r7 g, m, dk, cs) := by
  refine mo_alu hS hc (by decide) mw_346 mw_347 (by decide) (nx := 348) (rg1 := mu (rf r0 r1 r2 r3 r4 r5 r6 r7 g) 4 ((r4 + r1) % 65536)) rfl rf_m4 ?_
  refine mo_alu hS hc (by decide) mw_348 mw_349 (by decide) (nx := 350) (rg1 := mu (rf r0 r1 r2 r3 ((r4 + r1) % 65536) r5 r6 r7 g) 4 (if ((r4 + r1) % 65536) < r2 then 1 else 0)) rfl rf_m4 ?_
  refine mo_alu hS hc (by decide) mw_350 mw_351 (by decide) (nx := (if (if ((r4 + r1) % 65536) < r2 then 1 else 0) = 0 then 358 else 352)) (rg1 := rf r0 r1 r2 r3 (if ((r4 + r1) % 65536) < r2 then 1 else 0) r5 r6 r7 g) rfl rfl ?_
  exact kk
theorem bb_352 (hS : 474 ≤ S ∧ S ≤ bo) (hc : mcode m)  (kk : RN S Q k c (0, r3, 0, bo, ti, ro, false, rf r0 ((r1 + (m 408)) % 65536) (m 408) r3 r4 r5 r6 r7 g, m, dk, cs)) : RN S Q (k + 3) (c + 3) (0, 352, 0, bo, ti, ro, false, rf r0 r1 r2 r3 r4 r5 r6 r7 g, m, dk, cs) := by
  refine mo_ld hS hc (by decide) mw_352 mw_353 (ad := 408) (v := (m 408)) (by decide) rfl (by omega) (rfl) rf_m2 ?_
  refine mo_alu hS hc (by decide) mw_354 mw_355 (by decide) (nx := 356) (rg1 := mu (rf r0 r1 (m 408) r3 r4 r5 r6 r7 g) 1 ((r1 + (m 408)) % 65536)) rfl rf_m1 ?_
  refine mo_alu hS hc (by decide) mw_356 mw_357 (by decide) (nx := r3) (rg1 := rf r0 ((r1 + (m 408)) % 65536) (m 408) r3 r4 r5 r6 r7 g) rfl rfl ?_
  exact kk
theorem bb_358 (hS : 474 ≤ S ∧ S ≤ bo) (hc : mcode m)  (kk : RN S Q k c (0, 360, 0, bo, ti, ro, false, rf r0 r2 r2 r3 r4 r5 r6 r7 g, m, dk, cs)) : RN S Q (k + 1) (c + 1) (0, 358, 0, bo, ti, ro, false, rf r0 r1 r2 r3 r4 r5 r6 r7 g, m, dk, cs) := by
  refine mo_alu hS hc (by decide) mw_358 mw_359 (by decide) (nx := 360) (rg1 := mu (rf r0 r1 r2 r3 r4 r5 r6 r7 g) 1 r2) rfl rf_m1 ?_
  exact kk
theorem bb_360 (hS : 474 ≤ S ∧ S ≤ bo) (hc : mcode m)  (kk : RN S Q k c (0, 50, 0, bo, ti, ro, false, rf 0 2 r2 r3 r4 r5 r6 r7 g, (mu (mu m 9 r1) 8 2), dk, cs)) : RN S Q (k + 5) (c + 5) (0, 360, 0, bo, ti, ro, false, rf r0 r1 r2 r3 r4 r5 r6 r7 g, m, dk, cs) := by
  refine mo_sto hS hc (by decide) mw_360 mw_361 (ad := 9) (v := r1) (by decide) rfl (by omega) rfl ?_
  have hc := mcode_mu (a := 9) (x := r1) hc (by omega)
  refine mo_alu hS hc (by decide) mw_362 mw_363 (by decide) (nx := 364) (rg1 := mu (rf r0 r1 r2 r3 r4 r5 r6 r7 g) 1 2) rfl rf_m1 ?_
  refine mo_sto hS hc (by decide) mw_364 mw_365 (ad := 8) (v := 2) (by decide) rfl (by omega) rfl ?_
  have hc := mcode_mu (a := 8) (x := 2) hc (by omega)
  refine mo_alu hS hc (by decide) mw_366 mw_367 (by decide) (nx := 368) (rg1 := mu (rf r0 2 r2 r3 r4 r5 r6 r7 g) 0 0) rfl rf_m0 ?_
  refine mo_alu hS hc (by decide) mw_368 mw_369 (by decide) (nx := 50) (rg1 := rf 0 2 r2 r3 r4 r5 r6 r7 g) rfl rfl ?_
  exact kk
end MON2
