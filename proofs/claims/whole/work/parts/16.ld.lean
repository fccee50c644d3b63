def fl_124 (wW : Nat → Int32) (shr : Int32) (swd : Nat → Int32) (vmem : Nat → Int32) (vreg : Nat → Int32) (vblk : Nat → Int32) (ktyp : Nat → Int32) (ksen : Nat → Int32) (p1 : Int32) (p2 : Int32) (p3 : Int32) : Option (Int32 × Int32 × Int32 × Int32 × Int32 × Int32 × Int32 × Int32 × Int32 × Int32 × Int32 × Int32 × Int32 × Int32 × (Nat → Int32) × (Nat → Int32) × (Nat → Int32) × Int32 × Int32 × Int32 × (Nat → Int32)) := ((f_GU_begin wW vmem vreg vblk ktyp ksen swd shr p2 p3).bind fun (gsz_1, gdp_1, gst_1, gsp_1, vsz_1, vmd_1, vpc_1, vba_1, vbo_1, vre_1, vti_1, vro_1, vha_1, vmem_1, vreg_1, vblk_1, kold_1, kwai_1, ksnt_1, ksen_1) => (if ck p1 3 then (some (shr, gsz_1, gdp_1, gst_1, gsp_1, vsz_1, vmd_1, vpc_1, vba_1, vbo_1, vre_1, vti_1, vro_1, vha_1, vmem_1, vreg_1, vblk_1, kold_1, kwai_1, ksnt_1, ksen_1)) else none))

set_option maxHeartbeats 4000000 in
set_option maxRecDepth 100000 in
theorem ld_124 {p : Program} {l : Launch} {e : Env} {R : Room} {s : State} {m : MethodId} {below : List Frame} {meth : Method} {c : Code} {A : Nat → Prop} {E : jz_E} {a0 a1 a2 a3 g0 h2 k0 k1 k2 l0 l1 s0 s1 s2 s3 s4 s5 s6 t0 w9 : Nat} {wW : Nat → Int32} {htl : Int32} {hlf : Int32} {hll : Int32} {hgs : Nat → Option Nat} {shr : Int32} {sft : Int32} {sfl : Int32} {slc : Int32} {suc : Int32} {swd : Nat → Int32} {slb : Nat → Int64} {sla : Nat → Int32} {sul : Nat → Int64} {sua : Nat → Int32} {suL : Nat → Int32} {l9 : Nat} {lat : Int32} {len : Int32} {llb : Int64} {lor : Int32} {laa : Int32} {lbb : Int32} {lnu : Int32} {lwa : Int64} {ltx : Nat → Int32} {gsz : Int32} {gdp : Int32} {gst : Int32} {gsp : Int32} {vsz : Int32} {vmd : Int32} {vpc : Int32} {vba : Int32} {vbo : Int32} {vre : Int32} {vti : Int32} {vro : Int32} {vha : Int32} {vmem : Nat → Int32} {vreg : Nat → Int32} {vblk : Nat → Int32} {kold : Int32} {kwai : Int32} {ksnt : Int32} {ktyp : Nat → Int32} {ksen : Nat → Int32} {p1 : Int32} {p2 : Int32} {p3 : Int32} {p4 : Int32} {H : Heap} {locs : List Loc} {ls : Array Slot} {cells slots : Nat} {Q : State → Prop} {o_r : Int32} {o_gsz : Int32} {o_gdp : Int32} {o_gst : Int32} {o_gsp : Int32} {o_vsz : Int32} {o_vmd : Int32} {o_vpc : Int32} {o_vba : Int32} {o_vbo : Int32} {o_vre : Int32} {o_vti : Int32} {o_vro : Int32} {o_vha : Int32} {o_vmem : Nat → Int32} {o_vreg : Nat → Int32} {o_vblk : Nat → Int32} {o_kold : Int32} {o_kwai : Int32} {o_ksnt : Int32} {o_ksen : Nat → Int32} (J : JC p s m ([.ref t0, .int p1, .int p2, .int p3, .int p4] : List Value).toArray meth c c_GT_load 6 (some .int) y_GT_load.cls) (hJ : jE E s) (hA : ∀ q : Nat, s.heap.size ≤ q → A q) (hZ : jz_ok E A s s.heap) (hzW : (R_MO, "WORDS", "[I", Value.ref w9) ∈ E.2.2.1) (htW : (w9, 410, wW) ∈ E.2.2.2.1) (h : fl_124 wW shr swd vmem vreg vblk ktyp ksen p1 p2 p3 = some (o_r, o_gsz, o_gdp, o_gst, o_gsp, o_vsz, o_vmd, o_vpc, o_vba, o_vbo, o_vre, o_vti, o_vro, o_vha, o_vmem, o_vreg, o_vblk, o_kold, o_kwai, o_ksnt, o_ksen)) (hP : va_P E.1 classes [(t0, .inr (5, [.ref l1, .int htl, .ref s0, .ref h2, .int hlf, .int hll])), (h2, .inl (E.2.1 4, 3, .inr (.inr (.inr (.inr hgs))))), (s0, .inr (4, [.ref s1, .int shr, .int sft, .int sfl, .ref l0, .ref s2, .ref s3, .int slc, .ref s4, .ref s5, .ref s6, .int suc])), (s1, .inl (E.2.1 0, 1024, .inl swd)), (s2, .inl (E.2.1 1, 100, .inr (.inl slb))), (s3, .inl (E.2.1 0, 100, .inl sla)), (s4, .inl (E.2.1 1, 1024, .inr (.inl sul))), (s5, .inl (E.2.1 0, 1024, .inl sua)), (s6, .inl (E.2.1 0, 1024, .inl suL)), (l0, .inr (3, [.ref l9, .int lat, .int len, .long llb, .int lor, .int laa, .int lbb, .int lnu, .long lwa])), (l1, .inl (E.2.1 0, 3000, .inl ltx)), (g0, .inr (2, [.ref a0, .int gsz, .int gdp, .int gst, .int gsp])), (a0, .inr (0, [.ref a1, .ref a2, .ref a3, .ref k0, .int vsz, .int vmd, .int vpc, .int vba, .int vbo, .int vre, .int vti, .int vro, .int vha])), (a1, .inl (E.2.1 0, 1844, .inl vmem)), (a2, .inl (E.2.1 0, 8, .inl vreg)), (a3, .inl (E.2.1 0, 128, .inl vblk)), (k0, .inr (1, [.ref k1, .ref k2, .int kold, .int kwai, .int ksnt])), (k1, .inl (E.2.1 0, 100, .inl ktyp)), (k2, .inl (E.2.1 0, 500, .inl ksen))] H) (hD : va_D A [(t0, .inr (5, [.ref l1, .int htl, .ref s0, .ref h2, .int hlf, .int hll])), (h2, .inl (E.2.1 4, 3, .inr (.inr (.inr (.inr hgs))))), (s0, .inr (4, [.ref s1, .int shr, .int sft, .int sfl, .ref l0, .ref s2, .ref s3, .int slc, .ref s4, .ref s5, .ref s6, .int suc])), (s1, .inl (E.2.1 0, 1024, .inl swd)), (s2, .inl (E.2.1 1, 100, .inr (.inl slb))), (s3, .inl (E.2.1 0, 100, .inl sla)), (s4, .inl (E.2.1 1, 1024, .inr (.inl sul))), (s5, .inl (E.2.1 0, 1024, .inl sua)), (s6, .inl (E.2.1 0, 1024, .inl suL)), (l0, .inr (3, [.ref l9, .int lat, .int len, .long llb, .int lor, .int laa, .int lbb, .int lnu, .long lwa])), (l1, .inl (E.2.1 0, 3000, .inl ltx)), (g0, .inr (2, [.ref a0, .int gsz, .int gdp, .int gst, .int gsp])), (a0, .inr (0, [.ref a1, .ref a2, .ref a3, .ref k0, .int vsz, .int vmd, .int vpc, .int vba, .int vbo, .int vre, .int vti, .int vro, .int vha])), (a1, .inl (E.2.1 0, 1844, .inl vmem)), (a2, .inl (E.2.1 0, 8, .inl vreg)), (a3, .inl (E.2.1 0, 128, .inl vblk)), (k0, .inr (1, [.ref k1, .ref k2, .int kold, .int kwai, .int ksnt])), (k1, .inl (E.2.1 0, 100, .inl ktyp)), (k2, .inl (E.2.1 0, 500, .inl ksen))]) (hS : va_S A s.heap H locs) (hl : lv_has ls 6 [(0, .ref t0), (1, .int p1), (2, .int p2), (3, .int p3)]) (hRf : 6 ≤ R.frames) (hRl : 200 ≤ R.locals) (hcs : cells ≤ R.cells ∧ slots ≤ R.slots)
    (kk : ∀ (H1 : Heap) (locs1 : List Loc), va_P E.1 classes [(t0, .inr (5, [.ref l1, .int htl, .ref s0, .ref h2, .int hlf, .int hll])), (h2, .inl (E.2.1 4, 3, .inr (.inr (.inr (.inr (va_up hgs p1.toNatClampNeg (some g0))))))), (s0, .inr (4, [.ref s1, .int shr, .int sft, .int sfl, .ref l0, .ref s2, .ref s3, .int slc, .ref s4, .ref s5, .ref s6, .int suc])), (s1, .inl (E.2.1 0, 1024, .inl swd)), (s2, .inl (E.2.1 1, 100, .inr (.inl slb))), (s3, .inl (E.2.1 0, 100, .inl sla)), (s4, .inl (E.2.1 1, 1024, .inr (.inl sul))), (s5, .inl (E.2.1 0, 1024, .inl sua)), (s6, .inl (E.2.1 0, 1024, .inl suL)), (l0, .inr (3, [.ref l9, .int lat, .int len, .long llb, .int lor, .int laa, .int lbb, .int lnu, .long lwa])), (l1, .inl (E.2.1 0, 3000, .inl ltx)), (g0, .inr (2, [.ref a0, .int o_gsz, .int o_gdp, .int o_gst, .int o_gsp])), (a0, .inr (0, [.ref a1, .ref a2, .ref a3, .ref k0, .int o_vsz, .int o_vmd, .int o_vpc, .int o_vba, .int o_vbo, .int o_vre, .int o_vti, .int o_vro, .int o_vha])), (a1, .inl (E.2.1 0, 1844, .inl o_vmem)), (a2, .inl (E.2.1 0, 8, .inl o_vreg)), (a3, .inl (E.2.1 0, 128, .inl o_vblk)), (k0, .inr (1, [.ref k1, .ref k2, .int o_kold, .int o_kwai, .int o_ksnt])), (k1, .inl (E.2.1 0, 100, .inl ktyp)), (k2, .inl (E.2.1 0, 500, .inl o_ksen))] H1 → va_D A [(t0, .inr (5, [.ref l1, .int htl, .ref s0, .ref h2, .int hlf, .int hll])), (h2, .inl (E.2.1 4, 3, .inr (.inr (.inr (.inr (va_up hgs p1.toNatClampNeg (some g0))))))), (s0, .inr (4, [.ref s1, .int shr, .int sft, .int sfl, .ref l0, .ref s2, .ref s3, .int slc, .ref s4, .ref s5, .ref s6, .int suc])), (s1, .inl (E.2.1 0, 1024, .inl swd)), (s2, .inl (E.2.1 1, 100, .inr (.inl slb))), (s3, .inl (E.2.1 0, 100, .inl sla)), (s4, .inl (E.2.1 1, 1024, .inr (.inl sul))), (s5, .inl (E.2.1 0, 1024, .inl sua)), (s6, .inl (E.2.1 0, 1024, .inl suL)), (l0, .inr (3, [.ref l9, .int lat, .int len, .long llb, .int lor, .int laa, .int lbb, .int lnu, .long lwa])), (l1, .inl (E.2.1 0, 3000, .inl ltx)), (g0, .inr (2, [.ref a0, .int o_gsz, .int o_gdp, .int o_gst, .int o_gsp])), (a0, .inr (0, [.ref a1, .ref a2, .ref a3, .ref k0, .int o_vsz, .int o_vmd, .int o_vpc, .int o_vba, .int o_vbo, .int o_vre, .int o_vti, .int o_vro, .int o_vha])), (a1, .inl (E.2.1 0, 1844, .inl o_vmem)), (a2, .inl (E.2.1 0, 8, .inl o_vreg)), (a3, .inl (E.2.1 0, 128, .inl o_vblk)), (k0, .inr (1, [.ref k1, .ref k2, .int o_kold, .int o_kwai, .int o_ksnt])), (k1, .inl (E.2.1 0, 100, .inl ktyp)), (k2, .inl (E.2.1 0, 500, .inl o_ksen))] → va_S A s.heap H1 locs1 → ∀ ls : Array Slot, W p l e R s m ([.ref t0, .int p1, .int p2, .int p3, .int p4] : List Value).toArray below meth c H1 locs1 cells slots Q (F0 m 162 ls [.int o_r])) : W p l e R s m ([.ref t0, .int p1, .int p2, .int p3, .int p4] : List Value).toArray below meth c H locs cells slots Q (F0 m 124 ls [.ref g0]) := by
  unfold fl_124 at h
  refine lv_astore (lv' := [(5, .ref g0), (0, .ref t0), (1, .int p1), (2, .int p2), (3, .int p3)]) J.1 J.2.1 d_GT_load_124 hl (by decide) rfl ?_
  clear hl
  intro ls hl
  refine lv_aload J.1 J.2.1 d_GT_load_126 (lv_at hl 0 rfl) ?_
  refine lv_aload_n J.1 J.2.1 d_GT_load_128 rfl (lv_at hl 1 rfl) ?_
  refine jg J hJ hP 0 rfl rfl i_GT 2 (by decide) gf_GT_20 rfl d_GT_load_129 ?_
  refine jgN J hJ hP 2 rfl rfl i_AS 0 (by decide) gn_GT_55 rfl d_GT_load_132 ?_
  refine lv_aload_n J.1 J.2.1 d_GT_load_135 rfl (lv_at hl 1 rfl) ?_
  refine jg J hJ hP 0 rfl rfl i_GT 2 (by decide) gf_GT_20 rfl d_GT_load_136 ?_
  refine jgN J hJ hP 2 rfl rfl i_AS 1 (by decide) gn_GT_58 rfl d_GT_load_139 ?_
  refine lv_iload_n J.1 J.2.1 d_GT_load_142 rfl (lv_at hl 3 rfl) ?_
  refine lv_iload_n J.1 J.2.1 d_GT_load_143 rfl (lv_at hl 4 rfl) ?_
  replace h := g_bd h
  obtain ⟨⟨gsz_1, gdp_1, gst_1, gsp_1, vsz_1, vmd_1, vpc_1, vba_1, vbo_1, vre_1, vti_1, vro_1, vha_1, vmem_1, vreg_1, vblk_1, kold_1, kwai_1, ksnt_1, ksen_1⟩, q_1, h⟩ := h
  try dsimp only at h
  have hq := ct_GU_begin l E a0 a1 a2 a3 g0 k0 k1 k2 s1 w9 H.size wW gsz gdp gst gsp vsz vmd vpc vba vbo vre vti vro vha vmem vreg vblk kold kwai ksnt ktyp ksen swd shr p2 p3 gsz_1 gdp_1 gst_1 gsp_1 vsz_1 vmd_1 vpc_1 vba_1 vbo_1 vre_1 vti_1 vro_1 vha_1 vmem_1 vreg_1 vblk_1 kold_1 kwai_1 ksnt_1 ksen_1 hzW htW q_1
  have hr := jrunV (p := p) (e := e) (below := below) (R := R) (cells := cells) (slots := slots) (As := [.ref s1, .int shr, .int p2, .int p3]) (rest := []) J hJ hA hZ hP hD hS hq [11, 12, 13, 14, 15, 16, 17, 18, 3] rfl (by decide) gl_GT_61 gi_GU_begin gsel_GU_begin gini_GU gc_GU_begin hd_GU_begin ⟨rfl, rfl, hRf, hRl⟩ rfl rfl hl.1 rfl rfl (Nat.le_of_ble_eq_true rfl) d_GT_load_144 hcs
  clear hq
  refine jk_v hr hA hP hD hS [11, 12, 13, 14, 15, 16, 17, 18, 3] [0, 1, 2, 4, 5, 6, 7, 8, 9, 10] (WR := [(t0, .inr (5, [.ref l1, .int htl, .ref s0, .ref h2, .int hlf, .int hll])), (h2, .inl (E.2.1 4, 3, .inr (.inr (.inr (.inr hgs))))), (s0, .inr (4, [.ref s1, .int shr, .int sft, .int sfl, .ref l0, .ref s2, .ref s3, .int slc, .ref s4, .ref s5, .ref s6, .int suc])), (s2, .inl (E.2.1 1, 100, .inr (.inl slb))), (s3, .inl (E.2.1 0, 100, .inl sla)), (s4, .inl (E.2.1 1, 1024, .inr (.inl sul))), (s5, .inl (E.2.1 0, 1024, .inl sua)), (s6, .inl (E.2.1 0, 1024, .inl suL)), (l0, .inr (3, [.ref l9, .int lat, .int len, .long llb, .int lor, .int laa, .int lbb, .int lnu, .long lwa])), (l1, .inl (E.2.1 0, 3000, .inl ltx))]) rfl rfl (by decide) (by decide) [0, 1, 2, 18, 3, 4, 5, 6, 7, 8, 9, 10, 11, 12, 13, 14, 15, 16, 17] (WF := [(t0, .inr (5, [.ref l1, .int htl, .ref s0, .ref h2, .int hlf, .int hll])), (h2, .inl (E.2.1 4, 3, .inr (.inr (.inr (.inr hgs))))), (s0, .inr (4, [.ref s1, .int shr, .int sft, .int sfl, .ref l0, .ref s2, .ref s3, .int slc, .ref s4, .ref s5, .ref s6, .int suc])), (s1, .inl (E.2.1 0, 1024, .inl swd)), (s2, .inl (E.2.1 1, 100, .inr (.inl slb))), (s3, .inl (E.2.1 0, 100, .inl sla)), (s4, .inl (E.2.1 1, 1024, .inr (.inl sul))), (s5, .inl (E.2.1 0, 1024, .inl sua)), (s6, .inl (E.2.1 0, 1024, .inl suL)), (l0, .inr (3, [.ref l9, .int lat, .int len, .long llb, .int lor, .int laa, .int lbb, .int lnu, .long lwa])), (l1, .inl (E.2.1 0, 3000, .inl ltx)), (g0, .inr (2, [.ref a0, .int gsz_1, .int gdp_1, .int gst_1, .int gsp_1])), (a0, .inr (0, [.ref a1, .ref a2, .ref a3, .ref k0, .int vsz_1, .int vmd_1, .int vpc_1, .int vba_1, .int vbo_1, .int vre_1, .int vti_1, .int vro_1, .int vha_1])), (a1, .inl (E.2.1 0, 1844, .inl vmem_1)), (a2, .inl (E.2.1 0, 8, .inl vreg_1)), (a3, .inl (E.2.1 0, 128, .inl vblk_1)), (k0, .inr (1, [.ref k1, .ref k2, .int kold_1, .int kwai_1, .int ksnt_1])), (k1, .inl (E.2.1 0, 100, .inl ktyp)), (k2, .inl (E.2.1 0, 500, .inl ksen_1))]) rfl (by decide) ?_
  clear hP hD hS
  intro H locs hP hD hS
  clear hr
  refine lv_aload_n J.1 J.2.1 d_GT_load_147 rfl (lv_at hl 1 rfl) ?_
  refine jg J hJ hP 0 rfl rfl i_GT 3 (by decide) gf_GT_26 rfl d_GT_load_148 ?_
  refine lv_iload_n J.1 J.2.1 d_GT_load_151 rfl (lv_at hl 2 rfl) ?_
  refine lv_aload J.1 J.2.1 d_GT_load_152 (lv_at hl 0 rfl) ?_
  replace h := g_ck h
  obtain ⟨k_2, h⟩ := h
  refine va_astq J.1 J.2.1 hJ.1 hP hD hS 1 4 11 2 rfl rfl rfl rfl k_2 d_GT_load_154 ?_
  clear hP hD hS
  intro H locs hP hD hS
  have hP : va_P E.1 classes [(t0, .inr (5, [.ref l1, .int htl, .ref s0, .ref h2, .int hlf, .int hll])), (h2, .inl (E.2.1 4, 3, .inr (.inr (.inr (.inr (va_up hgs p1.toNatClampNeg (some g0))))))), (s0, .inr (4, [.ref s1, .int shr, .int sft, .int sfl, .ref l0, .ref s2, .ref s3, .int slc, .ref s4, .ref s5, .ref s6, .int suc])), (s1, .inl (E.2.1 0, 1024, .inl swd)), (s2, .inl (E.2.1 1, 100, .inr (.inl slb))), (s3, .inl (E.2.1 0, 100, .inl sla)), (s4, .inl (E.2.1 1, 1024, .inr (.inl sul))), (s5, .inl (E.2.1 0, 1024, .inl sua)), (s6, .inl (E.2.1 0, 1024, .inl suL)), (l0, .inr (3, [.ref l9, .int lat, .int len, .long llb, .int lor, .int laa, .int lbb, .int lnu, .long lwa])), (l1, .inl (E.2.1 0, 3000, .inl ltx)), (g0, .inr (2, [.ref a0, .int gsz_1, .int gdp_1, .int gst_1, .int gsp_1])), (a0, .inr (0, [.ref a1, .ref a2, .ref a3, .ref k0, .int vsz_1, .int vmd_1, .int vpc_1, .int vba_1, .int vbo_1, .int vre_1, .int vti_1, .int vro_1, .int vha_1])), (a1, .inl (E.2.1 0, 1844, .inl vmem_1)), (a2, .inl (E.2.1 0, 8, .inl vreg_1)), (a3, .inl (E.2.1 0, 128, .inl vblk_1)), (k0, .inr (1, [.ref k1, .ref k2, .int kold_1, .int kwai_1, .int ksnt_1])), (k1, .inl (E.2.1 0, 100, .inl ktyp)), (k2, .inl (E.2.1 0, 500, .inl ksen_1))] H := hP
  have hD : va_D A [(t0, .inr (5, [.ref l1, .int htl, .ref s0, .ref h2, .int hlf, .int hll])), (h2, .inl (E.2.1 4, 3, .inr (.inr (.inr (.inr (va_up hgs p1.toNatClampNeg (some g0))))))), (s0, .inr (4, [.ref s1, .int shr, .int sft, .int sfl, .ref l0, .ref s2, .ref s3, .int slc, .ref s4, .ref s5, .ref s6, .int suc])), (s1, .inl (E.2.1 0, 1024, .inl swd)), (s2, .inl (E.2.1 1, 100, .inr (.inl slb))), (s3, .inl (E.2.1 0, 100, .inl sla)), (s4, .inl (E.2.1 1, 1024, .inr (.inl sul))), (s5, .inl (E.2.1 0, 1024, .inl sua)), (s6, .inl (E.2.1 0, 1024, .inl suL)), (l0, .inr (3, [.ref l9, .int lat, .int len, .long llb, .int lor, .int laa, .int lbb, .int lnu, .long lwa])), (l1, .inl (E.2.1 0, 3000, .inl ltx)), (g0, .inr (2, [.ref a0, .int gsz_1, .int gdp_1, .int gst_1, .int gsp_1])), (a0, .inr (0, [.ref a1, .ref a2, .ref a3, .ref k0, .int vsz_1, .int vmd_1, .int vpc_1, .int vba_1, .int vbo_1, .int vre_1, .int vti_1, .int vro_1, .int vha_1])), (a1, .inl (E.2.1 0, 1844, .inl vmem_1)), (a2, .inl (E.2.1 0, 8, .inl vreg_1)), (a3, .inl (E.2.1 0, 128, .inl vblk_1)), (k0, .inr (1, [.ref k1, .ref k2, .int kold_1, .int kwai_1, .int ksnt_1])), (k1, .inl (E.2.1 0, 100, .inl ktyp)), (k2, .inl (E.2.1 0, 500, .inl ksen_1))] := hD
  refine lv_aload_n J.1 J.2.1 d_GT_load_155 rfl (lv_at hl 1 rfl) ?_
  refine jg J hJ hP 0 rfl rfl i_GT 2 (by decide) gf_GT_20 rfl d_GT_load_156 ?_
  refine jgN J hJ hP 2 rfl rfl i_AS 1 (by decide) gn_GT_58 rfl d_GT_load_159 ?_
  have h := Option.some.inj h
  have e_0 := (Prod.mk.inj h).1
  have h := (Prod.mk.inj h).2
  have e_1 := (Prod.mk.inj h).1
  have h := (Prod.mk.inj h).2
  have e_2 := (Prod.mk.inj h).1
  have h := (Prod.mk.inj h).2
  have e_3 := (Prod.mk.inj h).1
  have h := (Prod.mk.inj h).2
  have e_4 := (Prod.mk.inj h).1
  have h := (Prod.mk.inj h).2
  have e_5 := (Prod.mk.inj h).1
  have h := (Prod.mk.inj h).2
  have e_6 := (Prod.mk.inj h).1
  have h := (Prod.mk.inj h).2
  have e_7 := (Prod.mk.inj h).1
  have h := (Prod.mk.inj h).2
  have e_8 := (Prod.mk.inj h).1
  have h := (Prod.mk.inj h).2
  have e_9 := (Prod.mk.inj h).1
  have h := (Prod.mk.inj h).2
  have e_10 := (Prod.mk.inj h).1
  have h := (Prod.mk.inj h).2
  have e_11 := (Prod.mk.inj h).1
  have h := (Prod.mk.inj h).2
  have e_12 := (Prod.mk.inj h).1
  have h := (Prod.mk.inj h).2
  have e_13 := (Prod.mk.inj h).1
  have h := (Prod.mk.inj h).2
  have e_14 := (Prod.mk.inj h).1
  have h := (Prod.mk.inj h).2
  have e_15 := (Prod.mk.inj h).1
  have h := (Prod.mk.inj h).2
  have e_16 := (Prod.mk.inj h).1
  have h := (Prod.mk.inj h).2
  have e_17 := (Prod.mk.inj h).1
  have h := (Prod.mk.inj h).2
  have e_18 := (Prod.mk.inj h).1
  have h := (Prod.mk.inj h).2
  have e_19 := (Prod.mk.inj h).1
  have h := (Prod.mk.inj h).2
  rw [← e_0, ← e_1, ← e_2, ← e_3, ← e_4, ← e_5, ← e_6, ← e_7, ← e_8, ← e_9, ← e_10, ← e_11, ← e_12, ← e_13, ← e_14, ← e_15, ← e_16, ← e_17, ← e_18, ← e_19, ← h] at kk
  exact kk _ _ hP hD hS _

def f_GT_loada (l1 : Nat) (wN : Nat → Int32) (htl : Int32) (hlf : Int32) (hll : Int32) (shr : Int32) (sft : Int32) (sfl : Int32) (slc : Int32) (suc : Int32) (swd : Nat → Int32) (slb : Nat → Int64) (sla : Nat → Int32) (sul : Nat → Int64) (sua : Nat → Int32) (suL : Nat → Int32) (l9 : Nat) (lat : Int32) (len : Int32) (llb : Int64) (lor : Int32) (laa : Int32) (lbb : Int32) (lnu : Int32) (lwa : Int64) (ltx : Nat → Int32) (p1 : Int32) (p2 : Int32) (p3 : Int32) (p4 : Int32) : Option (Int32 × Int32 × Int32 × Int32 × Int32 × Int32 × Int32 × Int32 × Int32 × (Nat → Int32) × (Nat → Int64) × (Nat → Int32) × (Nat → Int64) × (Nat → Int32) × (Nat → Int32) × Nat × Int32 × Int32 × Int64 × Int32 × Int32 × Int32 × Int32 × Int64) := ((f_GT_isGuest  p1).bind fun r_1 => (if r_1 = (0 : Int32) then (some ((-2), htl, hlf, hll, shr, sft, sfl, slc, suc, swd, slb, sla, sul, sua, suL, l9, lat, len, llb, lor, laa, lbb, lnu, lwa)) else (if p2 < (64 : Int32) then (some ((-2), htl, hlf, hll, shr, sft, sfl, slc, suc, swd, slb, sla, sul, sua, suL, l9, lat, len, llb, lor, laa, lbb, lnu, lwa)) else (if p2 ≤ (1024 : Int32) then (if p3 < (0 : Int32) then (some ((-2), htl, hlf, hll, shr, sft, sfl, slc, suc, swd, slb, sla, sul, sua, suL, l9, lat, len, llb, lor, laa, lbb, lnu, lwa)) else (if (2 : Int32) < p3 then (some ((-2), htl, hlf, hll, shr, sft, sfl, slc, suc, swd, slb, sla, sul, sua, suL, l9, lat, len, llb, lor, laa, lbb, lnu, lwa)) else (if p4 < (0 : Int32) then (some ((-2), htl, hlf, hll, shr, sft, sfl, slc, suc, swd, slb, sla, sul, sua, suL, l9, lat, len, llb, lor, laa, lbb, lnu, lwa)) else (if p4 ≤ htl then ((f_AS_assemble l1 wN swd slb sla sul sua suL l9 lat len llb lor laa lbb lnu lwa ltx p4 p2).bind fun (shr_9, sft_9, sfl_9, slc_9, suc_9, swd_9, slb_9, sla_9, sul_9, sua_9, suL_9, l9_9, lat_9, len_9, llb_9, lor_9, laa_9, lbb_9, lnu_9, lwa_9) => (if sft_9 = (0 : Int32) then none else (some ((-1), 0, sft_9, sfl_9, shr_9, sft_9, sfl_9, slc_9, suc_9, swd_9, slb_9, sla_9, sul_9, sua_9, suL_9, l9_9, lat_9, len_9, llb_9, lor_9, laa_9, lbb_9, lnu_9, lwa_9)))) else (some ((-2), htl, hlf, hll, shr, sft, sfl, slc, suc, swd, slb, sla, sul, sua, suL, l9, lat, len, llb, lor, laa, lbb, lnu, lwa)))))) else (some ((-2), htl, hlf, hll, shr, sft, sfl, slc, suc, swd, slb, sla, sul, sua, suL, l9, lat, len, llb, lor, laa, lbb, lnu, lwa))))))
set_option maxHeartbeats 4000000 in
set_option maxRecDepth 100000 in
theorem ct_GT_loada (l : Launch) (E : jz_E) (h2 l0 l1 s0 s1 s2 s3 s4 s5 s6 t0 w8 : Nat) (sz : Nat) (wN : Nat → Int32) (htl : Int32) (hlf : Int32) (hll : Int32) (shr : Int32) (sft : Int32) (sfl : Int32) (slc : Int32) (suc : Int32) (swd : Nat → Int32) (slb : Nat → Int64) (sla : Nat → Int32) (sul : Nat → Int64) (sua : Nat → Int32) (suL : Nat → Int32) (l9 : Nat) (lat : Int32) (len : Int32) (llb : Int64) (lor : Int32) (laa : Int32) (lbb : Int32) (lnu : Int32) (lwa : Int64) (ltx : Nat → Int32) (p1 : Int32) (p2 : Int32) (p3 : Int32) (p4 : Int32) (o_r : Int32) (o_htl : Int32) (o_hlf : Int32) (o_hll : Int32) (o_shr : Int32) (o_sft : Int32) (o_sfl : Int32) (o_slc : Int32) (o_suc : Int32) (o_swd : Nat → Int32) (o_slb : Nat → Int64) (o_sla : Nat → Int32) (o_sul : Nat → Int64) (o_sua : Nat → Int32) (o_suL : Nat → Int32) (o_l9 : Nat) (o_lat : Int32) (o_len : Int32) (o_llb : Int64) (o_lor : Int32) (o_laa : Int32) (o_lbb : Int32) (o_lnu : Int32) (o_lwa : Int64)  (hzC : ("java/lang/String", "COMPACT_STRINGS", "Z", Value.int 1) ∈ E.2.2.1) (hzN : (R_LI, "WANTS", "[I", Value.ref w8) ∈ E.2.2.1) (htN : (w8, 28, wN) ∈ E.2.2.2.1) (h : f_GT_loada l1 wN htl hlf hll shr sft sfl slc suc swd slb sla sul sua suL l9 lat len llb lor laa lbb lnu lwa ltx p1 p2 p3 p4 = some (o_r, o_htl, o_hlf, o_hll, o_shr, o_sft, o_sfl, o_slc, o_suc, o_swd, o_slb, o_sla, o_sul, o_sua, o_suL, o_l9, o_lat, o_len, o_llb, o_lor, o_laa, o_lbb, o_lnu, o_lwa)) : CTi l E y_GT_load c_GT_load 6 (some .int) ({ frames := 9, cells := 0, slots := 0, locals := 203 }) [.ref t0, .int p1, .int p2, .int p3, .int p4] [(t0, .inr (5, [.ref l1, .int htl, .ref s0, .ref h2, .int hlf, .int hll])), (s0, .inr (4, [.ref s1, .int shr, .int sft, .int sfl, .ref l0, .ref s2, .ref s3, .int slc, .ref s4, .ref s5, .ref s6, .int suc])), (s1, .inl (E.2.1 0, 1024, .inl swd)), (s2, .inl (E.2.1 1, 100, .inr (.inl slb))), (s3, .inl (E.2.1 0, 100, .inl sla)), (s4, .inl (E.2.1 1, 1024, .inr (.inl sul))), (s5, .inl (E.2.1 0, 1024, .inl sua)), (s6, .inl (E.2.1 0, 1024, .inl suL)), (l0, .inr (3, [.ref l9, .int lat, .int len, .long llb, .int lor, .int laa, .int lbb, .int lnu, .long lwa])), (l1, .inl (E.2.1 0, 3000, .inl ltx))] sz o_r [(t0, .inr (5, [.ref l1, .int o_htl, .ref s0, .ref h2, .int o_hlf, .int o_hll])), (s0, .inr (4, [.ref s1, .int o_shr, .int o_sft, .int o_sfl, .ref l0, .ref s2, .ref s3, .int o_slc, .ref s4, .ref s5, .ref s6, .int o_suc])), (s1, .inl (E.2.1 0, 1024, .inl o_swd)), (s2, .inl (E.2.1 1, 100, .inr (.inl o_slb))), (s3, .inl (E.2.1 0, 100, .inl o_sla)), (s4, .inl (E.2.1 1, 1024, .inr (.inl o_sul))), (s5, .inl (E.2.1 0, 1024, .inl o_sua)), (s6, .inl (E.2.1 0, 1024, .inl o_suL)), (l0, .inr (3, [.ref o_l9, .int o_lat, .int o_len, .long o_llb, .int o_lor, .int o_laa, .int o_lbb, .int o_lnu, .long o_lwa])), (l1, .inl (E.2.1 0, 3000, .inl ltx))] := by
  refine jw (by decide +kernel) (Nat.le_of_ble_eq_true rfl) ?_
  intro p e s m below meth c A ls J hJ hAe hsz hA hZ hP hD hl
  rw [← hAe]
  have hS : va_S A s.heap s.heap [] := va_S.rf
  have hl : lv_has ls 6 [(0, .ref t0), (1, .int p1), (2, .int p2), (3, .int p3), (4, .int p4)] := hl
  unfold f_GT_loada at h
  refine lv_iload_n J.1 J.2.1 d_GT_load_0 rfl (lv_at hl 1 rfl) ?_
  replace h := g_bd h
  obtain ⟨r_1, q_1, h⟩ := h
  have hq := ct_GT_isGuest l E  s.heap.size  p1 r_1 q_1
  have hr := jrunS (p := p) (e := e) (below := below) (R := ({ frames := 9, cells := 0, slots := 0, locals := 203 })) (cells := 0) (slots := 0) (As := [.int p1]) (rest := []) J hJ hA hZ hP hD hS hq [] rfl (by decide) gl_GT_40 gs_GT_isGuest gini_GT gc_GT_isGuest hd_GT_isGuest ⟨rfl, rfl, Nat.le_of_ble_eq_true rfl, Nat.le_of_ble_eq_true rfl⟩ hl.1 rfl rfl (Nat.le_of_ble_eq_true rfl) d_GT_load_1 ⟨Nat.zero_le _, Nat.zero_le _⟩
  clear hq
  refine jk_i hr hA hP hD hS [] [0, 1, 2, 3, 4, 5, 6, 7, 8, 9] (WR := [(t0, .inr (5, [.ref l1, .int htl, .ref s0, .ref h2, .int hlf, .int hll])), (s0, .inr (4, [.ref s1, .int shr, .int sft, .int sfl, .ref l0, .ref s2, .ref s3, .int slc, .ref s4, .ref s5, .ref s6, .int suc])), (s1, .inl (E.2.1 0, 1024, .inl swd)), (s2, .inl (E.2.1 1, 100, .inr (.inl slb))), (s3, .inl (E.2.1 0, 100, .inl sla)), (s4, .inl (E.2.1 1, 1024, .inr (.inl sul))), (s5, .inl (E.2.1 0, 1024, .inl sua)), (s6, .inl (E.2.1 0, 1024, .inl suL)), (l0, .inr (3, [.ref l9, .int lat, .int len, .long llb, .int lor, .int laa, .int lbb, .int lnu, .long lwa])), (l1, .inl (E.2.1 0, 3000, .inl ltx))]) rfl rfl (by decide) (by decide) [0, 1, 2, 3, 4, 5, 6, 7, 8, 9] (WF := [(t0, .inr (5, [.ref l1, .int htl, .ref s0, .ref h2, .int hlf, .int hll])), (s0, .inr (4, [.ref s1, .int shr, .int sft, .int sfl, .ref l0, .ref s2, .ref s3, .int slc, .ref s4, .ref s5, .ref s6, .int suc])), (s1, .inl (E.2.1 0, 1024, .inl swd)), (s2, .inl (E.2.1 1, 100, .inr (.inl slb))), (s3, .inl (E.2.1 0, 100, .inl sla)), (s4, .inl (E.2.1 1, 1024, .inr (.inl sul))), (s5, .inl (E.2.1 0, 1024, .inl sua)), (s6, .inl (E.2.1 0, 1024, .inl suL)), (l0, .inr (3, [.ref l9, .int lat, .int len, .long llb, .int lor, .int laa, .int lbb, .int lnu, .long lwa])), (l1, .inl (E.2.1 0, 3000, .inl ltx))]) rfl (by decide) ?_
  clear hP hD hS
  intro H locs hP hD hS
  clear hr
  refine lv_if_eq (tgt := 20) J.1 J.2.1 d_GT_load_4 (by decide) (fun c_2 => ?_) (fun c_2 => ?_)
  · replace h := g_t c_2 h
    refine lv_bipush (v := (-2)) J.1 J.2.1 d_GT_load_20 (by decide) ?_
    have h := Option.some.inj h
    have e_0 := (Prod.mk.inj h).1
    have h := (Prod.mk.inj h).2
    have e_1 := (Prod.mk.inj h).1
    have h := (Prod.mk.inj h).2
    have e_2 := (Prod.mk.inj h).1
    have h := (Prod.mk.inj h).2
    have e_3 := (Prod.mk.inj h).1
    have h := (Prod.mk.inj h).2
    have e_4 := (Prod.mk.inj h).1
    have h := (Prod.mk.inj h).2
    have e_5 := (Prod.mk.inj h).1
    have h := (Prod.mk.inj h).2
    have e_6 := (Prod.mk.inj h).1
    have h := (Prod.mk.inj h).2
    have e_7 := (Prod.mk.inj h).1
    have h := (Prod.mk.inj h).2
    have e_8 := (Prod.mk.inj h).1
    have h := (Prod.mk.inj h).2
    have e_9 := (Prod.mk.inj h).1
    have h := (Prod.mk.inj h).2
    have e_10 := (Prod.mk.inj h).1
    have h := (Prod.mk.inj h).2
    have e_11 := (Prod.mk.inj h).1
    have h := (Prod.mk.inj h).2
    have e_12 := (Prod.mk.inj h).1
    have h := (Prod.mk.inj h).2
    have e_13 := (Prod.mk.inj h).1
    have h := (Prod.mk.inj h).2
    have e_14 := (Prod.mk.inj h).1
    have h := (Prod.mk.inj h).2
    have e_15 := (Prod.mk.inj h).1
    have h := (Prod.mk.inj h).2
    have e_16 := (Prod.mk.inj h).1
    have h := (Prod.mk.inj h).2
    have e_17 := (Prod.mk.inj h).1
    have h := (Prod.mk.inj h).2
    have e_18 := (Prod.mk.inj h).1
    have h := (Prod.mk.inj h).2
    have e_19 := (Prod.mk.inj h).1
    have h := (Prod.mk.inj h).2
    have e_20 := (Prod.mk.inj h).1
    have h := (Prod.mk.inj h).2
    have e_21 := (Prod.mk.inj h).1
    have h := (Prod.mk.inj h).2
    have e_22 := (Prod.mk.inj h).1
    have h := (Prod.mk.inj h).2
    rw [← e_0, ← e_1, ← e_2, ← e_3, ← e_4, ← e_5, ← e_6, ← e_7, ← e_8, ← e_9, ← e_10, ← e_11, ← e_12, ← e_13, ← e_14, ← e_15, ← e_16, ← e_17, ← e_18, ← e_19, ← e_20, ← e_21, ← e_22, ← h]
    exact jr_i J hS hP hD rfl d_GT_load_22
  · replace h := g_f c_2 h
    refine lv_iload_n J.1 J.2.1 d_GT_load_7 rfl (lv_at hl 2 rfl) ?_
    refine lv_bipush (v := 64) J.1 J.2.1 d_GT_load_8 (by decide) ?_
    refine lv_icmp_lt (tgt := 20) J.1 J.2.1 d_GT_load_10 (by decide) (fun c_3 => ?_) (fun c_3 => ?_)
    · replace h := g_t c_3 h
      refine lv_bipush (v := (-2)) J.1 J.2.1 d_GT_load_20 (by decide) ?_
      have h := Option.some.inj h
      have e_0 := (Prod.mk.inj h).1
      have h := (Prod.mk.inj h).2
      have e_1 := (Prod.mk.inj h).1
      have h := (Prod.mk.inj h).2
      have e_2 := (Prod.mk.inj h).1
      have h := (Prod.mk.inj h).2
      have e_3 := (Prod.mk.inj h).1
      have h := (Prod.mk.inj h).2
      have e_4 := (Prod.mk.inj h).1
      have h := (Prod.mk.inj h).2
      have e_5 := (Prod.mk.inj h).1
      have h := (Prod.mk.inj h).2
      have e_6 := (Prod.mk.inj h).1
      have h := (Prod.mk.inj h).2
      have e_7 := (Prod.mk.inj h).1
      have h := (Prod.mk.inj h).2
      have e_8 := (Prod.mk.inj h).1
      have h := (Prod.mk.inj h).2
      have e_9 := (Prod.mk.inj h).1
      have h := (Prod.mk.inj h).2
      have e_10 := (Prod.mk.inj h).1
      have h := (Prod.mk.inj h).2
      have e_11 := (Prod.mk.inj h).1
      have h := (Prod.mk.inj h).2
      have e_12 := (Prod.mk.inj h).1
      have h := (Prod.mk.inj h).2
      have e_13 := (Prod.mk.inj h).1
      have h := (Prod.mk.inj h).2
      have e_14 := (Prod.mk.inj h).1
      have h := (Prod.mk.inj h).2
      have e_15 := (Prod.mk.inj h).1
      have h := (Prod.mk.inj h).2
      have e_16 := (Prod.mk.inj h).1
      have h := (Prod.mk.inj h).2
      have e_17 := (Prod.mk.inj h).1
      have h := (Prod.mk.inj h).2
      have e_18 := (Prod.mk.inj h).1
      have h := (Prod.mk.inj h).2
      have e_19 := (Prod.mk.inj h).1
      have h := (Prod.mk.inj h).2
      have e_20 := (Prod.mk.inj h).1
      have h := (Prod.mk.inj h).2
      have e_21 := (Prod.mk.inj h).1
      have h := (Prod.mk.inj h).2
      have e_22 := (Prod.mk.inj h).1
      have h := (Prod.mk.inj h).2
      rw [← e_0, ← e_1, ← e_2, ← e_3, ← e_4, ← e_5, ← e_6, ← e_7, ← e_8, ← e_9, ← e_10, ← e_11, ← e_12, ← e_13, ← e_14, ← e_15, ← e_16, ← e_17, ← e_18, ← e_19, ← e_20, ← e_21, ← e_22, ← h]
      exact jr_i J hS hP hD rfl d_GT_load_22
    · replace h := g_f c_3 h
      refine lv_iload_n J.1 J.2.1 d_GT_load_13 rfl (lv_at hl 2 rfl) ?_
      refine lv_sipush (v := 1024) J.1 J.2.1 d_GT_load_14 (by decide) ?_
      refine lv_icmp_le (tgt := 23) J.1 J.2.1 d_GT_load_17 (by decide) (fun c_4 => ?_) (fun c_4 => ?_)
      · replace h := g_t c_4 h
        refine lv_iload_n J.1 J.2.1 d_GT_load_23 rfl (lv_at hl 3 rfl) ?_
        refine lv_if_lt (tgt := 46) J.1 J.2.1 d_GT_load_24 (by decide) (fun c_5 => ?_) (fun c_5 => ?_)
        · replace h := g_t c_5 h
          refine lv_bipush (v := (-2)) J.1 J.2.1 d_GT_load_46 (by decide) ?_
          have h := Option.some.inj h
          have e_0 := (Prod.mk.inj h).1
          have h := (Prod.mk.inj h).2
          have e_1 := (Prod.mk.inj h).1
          have h := (Prod.mk.inj h).2
          have e_2 := (Prod.mk.inj h).1
          have h := (Prod.mk.inj h).2
          have e_3 := (Prod.mk.inj h).1
          have h := (Prod.mk.inj h).2
          have e_4 := (Prod.mk.inj h).1
          have h := (Prod.mk.inj h).2
          have e_5 := (Prod.mk.inj h).1
          have h := (Prod.mk.inj h).2
          have e_6 := (Prod.mk.inj h).1
          have h := (Prod.mk.inj h).2
          have e_7 := (Prod.mk.inj h).1
          have h := (Prod.mk.inj h).2
          have e_8 := (Prod.mk.inj h).1
          have h := (Prod.mk.inj h).2
          have e_9 := (Prod.mk.inj h).1
          have h := (Prod.mk.inj h).2
          have e_10 := (Prod.mk.inj h).1
          have h := (Prod.mk.inj h).2
          have e_11 := (Prod.mk.inj h).1
          have h := (Prod.mk.inj h).2
          have e_12 := (Prod.mk.inj h).1
          have h := (Prod.mk.inj h).2
          have e_13 := (Prod.mk.inj h).1
          have h := (Prod.mk.inj h).2
          have e_14 := (Prod.mk.inj h).1
          have h := (Prod.mk.inj h).2
          have e_15 := (Prod.mk.inj h).1
          have h := (Prod.mk.inj h).2
          have e_16 := (Prod.mk.inj h).1
          have h := (Prod.mk.inj h).2
          have e_17 := (Prod.mk.inj h).1
          have h := (Prod.mk.inj h).2
          have e_18 := (Prod.mk.inj h).1
          have h := (Prod.mk.inj h).2
          have e_19 := (Prod.mk.inj h).1
          have h := (Prod.mk.inj h).2
          have e_20 := (Prod.mk.inj h).1
          have h := (Prod.mk.inj h).2
          have e_21 := (Prod.mk.inj h).1
          have h := (Prod.mk.inj h).2
          have e_22 := (Prod.mk.inj h).1
          have h := (Prod.mk.inj h).2
          rw [← e_0, ← e_1, ← e_2, ← e_3, ← e_4, ← e_5, ← e_6, ← e_7, ← e_8, ← e_9, ← e_10, ← e_11, ← e_12, ← e_13, ← e_14, ← e_15, ← e_16, ← e_17, ← e_18, ← e_19, ← e_20, ← e_21, ← e_22, ← h]
          exact jr_i J hS hP hD rfl d_GT_load_48
        · replace h := g_f c_5 h
          refine lv_iload_n J.1 J.2.1 d_GT_load_27 rfl (lv_at hl 3 rfl) ?_
          refine lv_iconst (v := 2) J.1 J.2.1 d_GT_load_28 (by decide) ?_
          refine lv_icmp_gt (tgt := 46) J.1 J.2.1 d_GT_load_29 (by decide) (fun c_6 => ?_) (fun c_6 => ?_)
          · replace h := g_t c_6 h
            refine lv_bipush (v := (-2)) J.1 J.2.1 d_GT_load_46 (by decide) ?_
            have h := Option.some.inj h
            have e_0 := (Prod.mk.inj h).1
            have h := (Prod.mk.inj h).2
            have e_1 := (Prod.mk.inj h).1
            have h := (Prod.mk.inj h).2
            have e_2 := (Prod.mk.inj h).1
            have h := (Prod.mk.inj h).2
            have e_3 := (Prod.mk.inj h).1
            have h := (Prod.mk.inj h).2
            have e_4 := (Prod.mk.inj h).1
            have h := (Prod.mk.inj h).2
            have e_5 := (Prod.mk.inj h).1
            have h := (Prod.mk.inj h).2
            have e_6 := (Prod.mk.inj h).1
            have h := (Prod.mk.inj h).2
            have e_7 := (Prod.mk.inj h).1
            have h := (Prod.mk.inj h).2
            have e_8 := (Prod.mk.inj h).1
            have h := (Prod.mk.inj h).2
            have e_9 := (Prod.mk.inj h).1
            have h := (Prod.mk.inj h).2
            have e_10 := (Prod.mk.inj h).1
            have h := (Prod.mk.inj h).2
            have e_11 := (Prod.mk.inj h).1
            have h := (Prod.mk.inj h).2
            have e_12 := (Prod.mk.inj h).1
            have h := (Prod.mk.inj h).2
            have e_13 := (Prod.mk.inj h).1
            have h := (Prod.mk.inj h).2
            have e_14 := (Prod.mk.inj h).1
            have h := (Prod.mk.inj h).2
            have e_15 := (Prod.mk.inj h).1
            have h := (Prod.mk.inj h).2
            have e_16 := (Prod.mk.inj h).1
            have h := (Prod.mk.inj h).2
            have e_17 := (Prod.mk.inj h).1
            have h := (Prod.mk.inj h).2
            have e_18 := (Prod.mk.inj h).1
            have h := (Prod.mk.inj h).2
            have e_19 := (Prod.mk.inj h).1
            have h := (Prod.mk.inj h).2
            have e_20 := (Prod.mk.inj h).1
            have h := (Prod.mk.inj h).2
            have e_21 := (Prod.mk.inj h).1
            have h := (Prod.mk.inj h).2
            have e_22 := (Prod.mk.inj h).1
            have h := (Prod.mk.inj h).2
            rw [← e_0, ← e_1, ← e_2, ← e_3, ← e_4, ← e_5, ← e_6, ← e_7, ← e_8, ← e_9, ← e_10, ← e_11, ← e_12, ← e_13, ← e_14, ← e_15, ← e_16, ← e_17, ← e_18, ← e_19, ← e_20, ← e_21, ← e_22, ← h]
            exact jr_i J hS hP hD rfl d_GT_load_48
          · replace h := g_f c_6 h
            refine lv_iload J.1 J.2.1 d_GT_load_32 (lv_at hl 4 rfl) ?_
            refine lv_if_lt (tgt := 46) J.1 J.2.1 d_GT_load_34 (by decide) (fun c_7 => ?_) (fun c_7 => ?_)
            · replace h := g_t c_7 h
              refine lv_bipush (v := (-2)) J.1 J.2.1 d_GT_load_46 (by decide) ?_
              have h := Option.some.inj h
              have e_0 := (Prod.mk.inj h).1
              have h := (Prod.mk.inj h).2
              have e_1 := (Prod.mk.inj h).1
              have h := (Prod.mk.inj h).2
              have e_2 := (Prod.mk.inj h).1
              have h := (Prod.mk.inj h).2
              have e_3 := (Prod.mk.inj h).1
              have h := (Prod.mk.inj h).2
              have e_4 := (Prod.mk.inj h).1
              have h := (Prod.mk.inj h).2
              have e_5 := (Prod.mk.inj h).1
              have h := (Prod.mk.inj h).2
              have e_6 := (Prod.mk.inj h).1
              have h := (Prod.mk.inj h).2
              have e_7 := (Prod.mk.inj h).1
              have h := (Prod.mk.inj h).2
              have e_8 := (Prod.mk.inj h).1
              have h := (Prod.mk.inj h).2
              have e_9 := (Prod.mk.inj h).1
              have h := (Prod.mk.inj h).2
              have e_10 := (Prod.mk.inj h).1
              have h := (Prod.mk.inj h).2
              have e_11 := (Prod.mk.inj h).1
              have h := (Prod.mk.inj h).2
              have e_12 := (Prod.mk.inj h).1
              have h := (Prod.mk.inj h).2
              have e_13 := (Prod.mk.inj h).1
              have h := (Prod.mk.inj h).2
              have e_14 := (Prod.mk.inj h).1
              have h := (Prod.mk.inj h).2
              have e_15 := (Prod.mk.inj h).1
              have h := (Prod.mk.inj h).2
              have e_16 := (Prod.mk.inj h).1
              have h := (Prod.mk.inj h).2
              have e_17 := (Prod.mk.inj h).1
              have h := (Prod.mk.inj h).2
              have e_18 := (Prod.mk.inj h).1
              have h := (Prod.mk.inj h).2
              have e_19 := (Prod.mk.inj h).1
              have h := (Prod.mk.inj h).2
              have e_20 := (Prod.mk.inj h).1
              have h := (Prod.mk.inj h).2
              have e_21 := (Prod.mk.inj h).1
              have h := (Prod.mk.inj h).2
              have e_22 := (Prod.mk.inj h).1
              have h := (Prod.mk.inj h).2
              rw [← e_0, ← e_1, ← e_2, ← e_3, ← e_4, ← e_5, ← e_6, ← e_7, ← e_8, ← e_9, ← e_10, ← e_11, ← e_12, ← e_13, ← e_14, ← e_15, ← e_16, ← e_17, ← e_18, ← e_19, ← e_20, ← e_21, ← e_22, ← h]
              exact jr_i J hS hP hD rfl d_GT_load_48
            · replace h := g_f c_7 h
              refine lv_iload J.1 J.2.1 d_GT_load_37 (lv_at hl 4 rfl) ?_
              refine lv_aload_n J.1 J.2.1 d_GT_load_39 rfl (lv_at hl 0 rfl) ?_
              refine jg J hJ hP 0 rfl rfl i_GT 1 (by decide) gf_GT_13 rfl d_GT_load_40 ?_
              refine lv_icmp_le (tgt := 49) J.1 J.2.1 d_GT_load_43 (by decide) (fun c_8 => ?_) (fun c_8 => ?_)
              · replace h := g_t c_8 h
                refine lv_aload_n J.1 J.2.1 d_GT_load_49 rfl (lv_at hl 0 rfl) ?_
                refine jg J hJ hP 0 rfl rfl i_GT 2 (by decide) gf_GT_20 rfl d_GT_load_50 ?_
                refine lv_aload_n J.1 J.2.1 d_GT_load_53 rfl (lv_at hl 0 rfl) ?_
                refine jg J hJ hP 0 rfl rfl i_GT 0 (by decide) gf_GT_9 rfl d_GT_load_54 ?_
                refine lv_iload J.1 J.2.1 d_GT_load_57 (lv_at hl 4 rfl) ?_
                refine lv_iload_n J.1 J.2.1 d_GT_load_59 rfl (lv_at hl 2 rfl) ?_
                replace h := g_bd h
                obtain ⟨⟨shr_9, sft_9, sfl_9, slc_9, suc_9, swd_9, slb_9, sla_9, sul_9, sua_9, suL_9, l9_9, lat_9, len_9, llb_9, lor_9, laa_9, lbb_9, lnu_9, lwa_9⟩, q_9, h⟩ := h
                try dsimp only at h
                have hq := ct_AS_assemble l E l0 l1 s0 s1 s2 s3 s4 s5 s6 w8 H.size wN shr sft sfl slc suc swd slb sla sul sua suL l9 lat len llb lor laa lbb lnu lwa ltx p4 p2 shr_9 sft_9 sfl_9 slc_9 suc_9 swd_9 slb_9 sla_9 sul_9 sua_9 suL_9 l9_9 lat_9 len_9 llb_9 lor_9 laa_9 lbb_9 lnu_9 lwa_9 hzC hzN htN q_9
                have hr := jrunV (p := p) (e := e) (below := below) (R := ({ frames := 9, cells := 0, slots := 0, locals := 203 })) (cells := 0) (slots := 0) (As := [.ref l1, .int p4, .int p2]) (rest := []) J hJ hA hZ hP hD hS hq [1, 2, 3, 4, 5, 6, 7, 8, 9] rfl (by decide) gl_GT_44 gi_AS_assemble gsel_AS_assemble gini_AS gc_AS_assemble hd_AS_assemble ⟨rfl, rfl, Nat.le_of_ble_eq_true rfl, Nat.le_of_ble_eq_true rfl⟩ rfl rfl hl.1 rfl rfl (Nat.le_of_ble_eq_true rfl) d_GT_load_60 ⟨Nat.zero_le _, Nat.zero_le _⟩
                clear hq
                refine jk_v hr hA hP hD hS [1, 2, 3, 4, 5, 6, 7, 8, 9] [0] (WR := [(t0, .inr (5, [.ref l1, .int htl, .ref s0, .ref h2, .int hlf, .int hll]))]) rfl rfl (by decide) (by decide) [0, 1, 2, 3, 4, 5, 6, 7, 8, 9] (WF := [(t0, .inr (5, [.ref l1, .int htl, .ref s0, .ref h2, .int hlf, .int hll])), (s0, .inr (4, [.ref s1, .int shr_9, .int sft_9, .int sfl_9, .ref l0, .ref s2, .ref s3, .int slc_9, .ref s4, .ref s5, .ref s6, .int suc_9])), (s1, .inl (E.2.1 0, 1024, .inl swd_9)), (s2, .inl (E.2.1 1, 100, .inr (.inl slb_9))), (s3, .inl (E.2.1 0, 100, .inl sla_9)), (s4, .inl (E.2.1 1, 1024, .inr (.inl sul_9))), (s5, .inl (E.2.1 0, 1024, .inl sua_9)), (s6, .inl (E.2.1 0, 1024, .inl suL_9)), (l0, .inr (3, [.ref l9_9, .int lat_9, .int len_9, .long llb_9, .int lor_9, .int laa_9, .int lbb_9, .int lnu_9, .long lwa_9])), (l1, .inl (E.2.1 0, 3000, .inl ltx))]) rfl (by decide) ?_
                clear hP hD hS
                intro H locs hP hD hS
                clear hr
                refine lv_aload_n J.1 J.2.1 d_GT_load_63 rfl (lv_at hl 0 rfl) ?_
                refine lv_iconst (v := 0) J.1 J.2.1 d_GT_load_64 (by decide) ?_
                refine jp J hJ hP hD hS 0 rfl rfl i_GT t_GT t_GT_ok n_GT 1 (by decide) gf_GT_13 rfl rfl rfl (Nat.le_of_ble_eq_true rfl) d_GT_load_65 (WS' := [(t0, .inr (5, [.ref l1, .int 0, .ref s0, .ref h2, .int hlf, .int hll])), (s0, .inr (4, [.ref s1, .int shr_9, .int sft_9, .int sfl_9, .ref l0, .ref s2, .ref s3, .int slc_9, .ref s4, .ref s5, .ref s6, .int suc_9])), (s1, .inl (E.2.1 0, 1024, .inl swd_9)), (s2, .inl (E.2.1 1, 100, .inr (.inl slb_9))), (s3, .inl (E.2.1 0, 100, .inl sla_9)), (s4, .inl (E.2.1 1, 1024, .inr (.inl sul_9))), (s5, .inl (E.2.1 0, 1024, .inl sua_9)), (s6, .inl (E.2.1 0, 1024, .inl suL_9)), (l0, .inr (3, [.ref l9_9, .int lat_9, .int len_9, .long llb_9, .int lor_9, .int laa_9, .int lbb_9, .int lnu_9, .long lwa_9])), (l1, .inl (E.2.1 0, 3000, .inl ltx))]) rfl ?_
                clear hP hD hS
                intro H locs hP hD hS
                refine lv_aload_n J.1 J.2.1 d_GT_load_68 rfl (lv_at hl 0 rfl) ?_
                refine lv_aload_n J.1 J.2.1 d_GT_load_69 rfl (lv_at hl 0 rfl) ?_
                refine jg J hJ hP 0 rfl rfl i_GT 2 (by decide) gf_GT_20 rfl d_GT_load_70 ?_
                refine jgN J hJ hP 1 rfl rfl i_AS 2 (by decide) gn_GT_48 rfl d_GT_load_73 ?_
                refine jp J hJ hP hD hS 0 rfl rfl i_GT t_GT t_GT_ok n_GT 4 (by decide) gf_GT_30 rfl rfl rfl (Nat.le_of_ble_eq_true rfl) d_GT_load_76 (WS' := [(t0, .inr (5, [.ref l1, .int 0, .ref s0, .ref h2, .int sft_9, .int hll])), (s0, .inr (4, [.ref s1, .int shr_9, .int sft_9, .int sfl_9, .ref l0, .ref s2, .ref s3, .int slc_9, .ref s4, .ref s5, .ref s6, .int suc_9])), (s1, .inl (E.2.1 0, 1024, .inl swd_9)), (s2, .inl (E.2.1 1, 100, .inr (.inl slb_9))), (s3, .inl (E.2.1 0, 100, .inl sla_9)), (s4, .inl (E.2.1 1, 1024, .inr (.inl sul_9))), (s5, .inl (E.2.1 0, 1024, .inl sua_9)), (s6, .inl (E.2.1 0, 1024, .inl suL_9)), (l0, .inr (3, [.ref l9_9, .int lat_9, .int len_9, .long llb_9, .int lor_9, .int laa_9, .int lbb_9, .int lnu_9, .long lwa_9])), (l1, .inl (E.2.1 0, 3000, .inl ltx))]) rfl ?_
                clear hP hD hS
                intro H locs hP hD hS
                refine lv_aload_n J.1 J.2.1 d_GT_load_79 rfl (lv_at hl 0 rfl) ?_
                refine lv_aload_n J.1 J.2.1 d_GT_load_80 rfl (lv_at hl 0 rfl) ?_
                refine jg J hJ hP 0 rfl rfl i_GT 2 (by decide) gf_GT_20 rfl d_GT_load_81 ?_
                refine jgN J hJ hP 1 rfl rfl i_AS 3 (by decide) gn_GT_51 rfl d_GT_load_84 ?_
                refine jp J hJ hP hD hS 0 rfl rfl i_GT t_GT t_GT_ok n_GT 5 (by decide) gf_GT_33 rfl rfl rfl (Nat.le_of_ble_eq_true rfl) d_GT_load_87 (WS' := [(t0, .inr (5, [.ref l1, .int 0, .ref s0, .ref h2, .int sft_9, .int sfl_9])), (s0, .inr (4, [.ref s1, .int shr_9, .int sft_9, .int sfl_9, .ref l0, .ref s2, .ref s3, .int slc_9, .ref s4, .ref s5, .ref s6, .int suc_9])), (s1, .inl (E.2.1 0, 1024, .inl swd_9)), (s2, .inl (E.2.1 1, 100, .inr (.inl slb_9))), (s3, .inl (E.2.1 0, 100, .inl sla_9)), (s4, .inl (E.2.1 1, 1024, .inr (.inl sul_9))), (s5, .inl (E.2.1 0, 1024, .inl sua_9)), (s6, .inl (E.2.1 0, 1024, .inl suL_9)), (l0, .inr (3, [.ref l9_9, .int lat_9, .int len_9, .long llb_9, .int lor_9, .int laa_9, .int lbb_9, .int lnu_9, .long lwa_9])), (l1, .inl (E.2.1 0, 3000, .inl ltx))]) rfl ?_
                clear hP hD hS
                intro H locs hP hD hS
                refine lv_aload_n J.1 J.2.1 d_GT_load_90 rfl (lv_at hl 0 rfl) ?_
                refine jg J hJ hP 0 rfl rfl i_GT 4 (by decide) gf_GT_30 rfl d_GT_load_91 ?_
                refine lv_if_eq (tgt := 99) J.1 J.2.1 d_GT_load_94 (by decide) (fun c_10 => ?_) (fun c_10 => ?_)
                · replace h := g_t c_10 h
                  cases h
                · replace h := g_f c_10 h
                  refine lv_iconst (v := (-1)) J.1 J.2.1 d_GT_load_97 (by decide) ?_
                  have h := Option.some.inj h
                  have e_0 := (Prod.mk.inj h).1
                  have h := (Prod.mk.inj h).2
                  have e_1 := (Prod.mk.inj h).1
                  have h := (Prod.mk.inj h).2
                  have e_2 := (Prod.mk.inj h).1
                  have h := (Prod.mk.inj h).2
                  have e_3 := (Prod.mk.inj h).1
                  have h := (Prod.mk.inj h).2
                  have e_4 := (Prod.mk.inj h).1
                  have h := (Prod.mk.inj h).2
                  have e_5 := (Prod.mk.inj h).1
                  have h := (Prod.mk.inj h).2
                  have e_6 := (Prod.mk.inj h).1
                  have h := (Prod.mk.inj h).2
                  have e_7 := (Prod.mk.inj h).1
                  have h := (Prod.mk.inj h).2
                  have e_8 := (Prod.mk.inj h).1
                  have h := (Prod.mk.inj h).2
                  have e_9 := (Prod.mk.inj h).1
                  have h := (Prod.mk.inj h).2
                  have e_10 := (Prod.mk.inj h).1
                  have h := (Prod.mk.inj h).2
                  have e_11 := (Prod.mk.inj h).1
                  have h := (Prod.mk.inj h).2
                  have e_12 := (Prod.mk.inj h).1
                  have h := (Prod.mk.inj h).2
                  have e_13 := (Prod.mk.inj h).1
                  have h := (Prod.mk.inj h).2
                  have e_14 := (Prod.mk.inj h).1
                  have h := (Prod.mk.inj h).2
                  have e_15 := (Prod.mk.inj h).1
                  have h := (Prod.mk.inj h).2
                  have e_16 := (Prod.mk.inj h).1
                  have h := (Prod.mk.inj h).2
                  have e_17 := (Prod.mk.inj h).1
                  have h := (Prod.mk.inj h).2
                  have e_18 := (Prod.mk.inj h).1
                  have h := (Prod.mk.inj h).2
                  have e_19 := (Prod.mk.inj h).1
                  have h := (Prod.mk.inj h).2
                  have e_20 := (Prod.mk.inj h).1
                  have h := (Prod.mk.inj h).2
                  have e_21 := (Prod.mk.inj h).1
                  have h := (Prod.mk.inj h).2
                  have e_22 := (Prod.mk.inj h).1
                  have h := (Prod.mk.inj h).2
                  rw [← e_0, ← e_1, ← e_2, ← e_3, ← e_4, ← e_5, ← e_6, ← e_7, ← e_8, ← e_9, ← e_10, ← e_11, ← e_12, ← e_13, ← e_14, ← e_15, ← e_16, ← e_17, ← e_18, ← e_19, ← e_20, ← e_21, ← e_22, ← h]
                  exact jr_i J hS hP hD rfl d_GT_load_98
              · replace h := g_f c_8 h
                refine lv_bipush (v := (-2)) J.1 J.2.1 d_GT_load_46 (by decide) ?_
                have h := Option.some.inj h
                have e_0 := (Prod.mk.inj h).1
                have h := (Prod.mk.inj h).2
                have e_1 := (Prod.mk.inj h).1
                have h := (Prod.mk.inj h).2
                have e_2 := (Prod.mk.inj h).1
                have h := (Prod.mk.inj h).2
                have e_3 := (Prod.mk.inj h).1
                have h := (Prod.mk.inj h).2
                have e_4 := (Prod.mk.inj h).1
                have h := (Prod.mk.inj h).2
                have e_5 := (Prod.mk.inj h).1
                have h := (Prod.mk.inj h).2
                have e_6 := (Prod.mk.inj h).1
                have h := (Prod.mk.inj h).2
                have e_7 := (Prod.mk.inj h).1
                have h := (Prod.mk.inj h).2
                have e_8 := (Prod.mk.inj h).1
                have h := (Prod.mk.inj h).2
                have e_9 := (Prod.mk.inj h).1
                have h := (Prod.mk.inj h).2
                have e_10 := (Prod.mk.inj h).1
                have h := (Prod.mk.inj h).2
                have e_11 := (Prod.mk.inj h).1
                have h := (Prod.mk.inj h).2
                have e_12 := (Prod.mk.inj h).1
                have h := (Prod.mk.inj h).2
                have e_13 := (Prod.mk.inj h).1
                have h := (Prod.mk.inj h).2
                have e_14 := (Prod.mk.inj h).1
                have h := (Prod.mk.inj h).2
                have e_15 := (Prod.mk.inj h).1
                have h := (Prod.mk.inj h).2
                have e_16 := (Prod.mk.inj h).1
                have h := (Prod.mk.inj h).2
                have e_17 := (Prod.mk.inj h).1
                have h := (Prod.mk.inj h).2
                have e_18 := (Prod.mk.inj h).1
                have h := (Prod.mk.inj h).2
                have e_19 := (Prod.mk.inj h).1
                have h := (Prod.mk.inj h).2
                have e_20 := (Prod.mk.inj h).1
                have h := (Prod.mk.inj h).2
                have e_21 := (Prod.mk.inj h).1
                have h := (Prod.mk.inj h).2
                have e_22 := (Prod.mk.inj h).1
                have h := (Prod.mk.inj h).2
                rw [← e_0, ← e_1, ← e_2, ← e_3, ← e_4, ← e_5, ← e_6, ← e_7, ← e_8, ← e_9, ← e_10, ← e_11, ← e_12, ← e_13, ← e_14, ← e_15, ← e_16, ← e_17, ← e_18, ← e_19, ← e_20, ← e_21, ← e_22, ← h]
                exact jr_i J hS hP hD rfl d_GT_load_48
      · replace h := g_f c_4 h
        refine lv_bipush (v := (-2)) J.1 J.2.1 d_GT_load_20 (by decide) ?_
        have h := Option.some.inj h
        have e_0 := (Prod.mk.inj h).1
        have h := (Prod.mk.inj h).2
        have e_1 := (Prod.mk.inj h).1
        have h := (Prod.mk.inj h).2
        have e_2 := (Prod.mk.inj h).1
        have h := (Prod.mk.inj h).2
        have e_3 := (Prod.mk.inj h).1
        have h := (Prod.mk.inj h).2
        have e_4 := (Prod.mk.inj h).1
        have h := (Prod.mk.inj h).2
        have e_5 := (Prod.mk.inj h).1
        have h := (Prod.mk.inj h).2
        have e_6 := (Prod.mk.inj h).1
        have h := (Prod.mk.inj h).2
        have e_7 := (Prod.mk.inj h).1
        have h := (Prod.mk.inj h).2
        have e_8 := (Prod.mk.inj h).1
        have h := (Prod.mk.inj h).2
        have e_9 := (Prod.mk.inj h).1
        have h := (Prod.mk.inj h).2
        have e_10 := (Prod.mk.inj h).1
        have h := (Prod.mk.inj h).2
        have e_11 := (Prod.mk.inj h).1
        have h := (Prod.mk.inj h).2
        have e_12 := (Prod.mk.inj h).1
        have h := (Prod.mk.inj h).2
        have e_13 := (Prod.mk.inj h).1
        have h := (Prod.mk.inj h).2
        have e_14 := (Prod.mk.inj h).1
        have h := (Prod.mk.inj h).2
        have e_15 := (Prod.mk.inj h).1
        have h := (Prod.mk.inj h).2
        have e_16 := (Prod.mk.inj h).1
        have h := (Prod.mk.inj h).2
        have e_17 := (Prod.mk.inj h).1
        have h := (Prod.mk.inj h).2
        have e_18 := (Prod.mk.inj h).1
        have h := (Prod.mk.inj h).2
        have e_19 := (Prod.mk.inj h).1
        have h := (Prod.mk.inj h).2
        have e_20 := (Prod.mk.inj h).1
        have h := (Prod.mk.inj h).2
        have e_21 := (Prod.mk.inj h).1
        have h := (Prod.mk.inj h).2
        have e_22 := (Prod.mk.inj h).1
        have h := (Prod.mk.inj h).2
        rw [← e_0, ← e_1, ← e_2, ← e_3, ← e_4, ← e_5, ← e_6, ← e_7, ← e_8, ← e_9, ← e_10, ← e_11, ← e_12, ← e_13, ← e_14, ← e_15, ← e_16, ← e_17, ← e_18, ← e_19, ← e_20, ← e_21, ← e_22, ← h]
        exact jr_i J hS hP hD rfl d_GT_load_22

def f_GT_loadg (l1 : Nat) (wW : Nat → Int32) (wN : Nat → Int32) (htl : Int32) (swd : Nat → Int32) (slb : Nat → Int64) (sla : Nat → Int32) (sul : Nat → Int64) (sua : Nat → Int32) (suL : Nat → Int32) (l9 : Nat) (lat : Int32) (len : Int32) (llb : Int64) (lor : Int32) (laa : Int32) (lbb : Int32) (lnu : Int32) (lwa : Int64) (ltx : Nat → Int32) (vmem : Nat → Int32) (vreg : Nat → Int32) (vblk : Nat → Int32) (ktyp : Nat → Int32) (ksen : Nat → Int32) (p1 : Int32) (p2 : Int32) (p3 : Int32) (p4 : Int32) : Option (Int32 × Int32 × Int32 × Int32 × Int32 × Int32 × Int32 × Int32 × Int32 × (Nat → Int32) × (Nat → Int64) × (Nat → Int32) × (Nat → Int64) × (Nat → Int32) × (Nat → Int32) × Nat × Int32 × Int32 × Int64 × Int32 × Int32 × Int32 × Int32 × Int64 × Int32 × Int32 × Int32 × Int32 × Int32 × Int32 × Int32 × Int32 × Int32 × Int32 × Int32 × Int32 × Int32 × (Nat → Int32) × (Nat → Int32) × (Nat → Int32) × Int32 × Int32 × Int32 × (Nat → Int32)) := ((f_GT_isGuest  p1).bind fun r_1 => (if r_1 = (0 : Int32) then none else (if p2 < (64 : Int32) then none else (if p2 ≤ (1024 : Int32) then (if p3 < (0 : Int32) then none else (if (2 : Int32) < p3 then none else (if p4 < (0 : Int32) then none else (if p4 ≤ htl then ((f_AS_assemble l1 wN swd slb sla sul sua suL l9 lat len llb lor laa lbb lnu lwa ltx p4 p2).bind fun (shr_9, sft_9, sfl_9, slc_9, suc_9, swd_9, slb_9, sla_9, sul_9, sua_9, suL_9, l9_9, lat_9, len_9, llb_9, lor_9, laa_9, lbb_9, lnu_9, lwa_9) => (if sft_9 = (0 : Int32) then (if ck p1 3 then (if ck p1 3 then ((fl_124 wW shr_9 swd_9 vmem vreg vblk ktyp ksen p1 p2 p3).bind fun (r_13, gsz_13, gdp_13, gst_13, gsp_13, vsz_13, vmd_13, vpc_13, vba_13, vbo_13, vre_13, vti_13, vro_13, vha_13, vmem_13, vreg_13, vblk_13, kold_13, kwai_13, ksnt_13, ksen_13) => (some (r_13, 0, sft_9, sfl_9, shr_9, sft_9, sfl_9, slc_9, suc_9, swd_9, slb_9, sla_9, sul_9, sua_9, suL_9, l9_9, lat_9, len_9, llb_9, lor_9, laa_9, lbb_9, lnu_9, lwa_9, gsz_13, gdp_13, gst_13, gsp_13, vsz_13, vmd_13, vpc_13, vba_13, vbo_13, vre_13, vti_13, vro_13, vha_13, vmem_13, vreg_13, vblk_13, kold_13, kwai_13, ksnt_13, ksen_13))) else none) else none) else none)) else none)))) else none))))
set_option maxHeartbeats 4000000 in
set_option maxRecDepth 100000 in
theorem ct_GT_loadg (l : Launch) (E : jz_E) (a0 a1 a2 a3 g0 h2 k0 k1 k2 l0 l1 s0 s1 s2 s3 s4 s5 s6 t0 w8 w9 : Nat) (sz : Nat) (wW : Nat → Int32) (wN : Nat → Int32) (htl : Int32) (hlf : Int32) (hll : Int32) (hgs : Nat → Option Nat) (shr : Int32) (sft : Int32) (sfl : Int32) (slc : Int32) (suc : Int32) (swd : Nat → Int32) (slb : Nat → Int64) (sla : Nat → Int32) (sul : Nat → Int64) (sua : Nat → Int32) (suL : Nat → Int32) (l9 : Nat) (lat : Int32) (len : Int32) (llb : Int64) (lor : Int32) (laa : Int32) (lbb : Int32) (lnu : Int32) (lwa : Int64) (ltx : Nat → Int32) (gsz : Int32) (gdp : Int32) (gst : Int32) (gsp : Int32) (vsz : Int32) (vmd : Int32) (vpc : Int32) (vba : Int32) (vbo : Int32) (vre : Int32) (vti : Int32) (vro : Int32) (vha : Int32) (vmem : Nat → Int32) (vreg : Nat → Int32) (vblk : Nat → Int32) (kold : Int32) (kwai : Int32) (ksnt : Int32) (ktyp : Nat → Int32) (ksen : Nat → Int32) (p1 : Int32) (p2 : Int32) (p3 : Int32) (p4 : Int32) (o_r : Int32) (o_htl : Int32) (o_hlf : Int32) (o_hll : Int32) (o_shr : Int32) (o_sft : Int32) (o_sfl : Int32) (o_slc : Int32) (o_suc : Int32) (o_swd : Nat → Int32) (o_slb : Nat → Int64) (o_sla : Nat → Int32) (o_sul : Nat → Int64) (o_sua : Nat → Int32) (o_suL : Nat → Int32) (o_l9 : Nat) (o_lat : Int32) (o_len : Int32) (o_llb : Int64) (o_lor : Int32) (o_laa : Int32) (o_lbb : Int32) (o_lnu : Int32) (o_lwa : Int64) (o_gsz : Int32) (o_gdp : Int32) (o_gst : Int32) (o_gsp : Int32) (o_vsz : Int32) (o_vmd : Int32) (o_vpc : Int32) (o_vba : Int32) (o_vbo : Int32) (o_vre : Int32) (o_vti : Int32) (o_vro : Int32) (o_vha : Int32) (o_vmem : Nat → Int32) (o_vreg : Nat → Int32) (o_vblk : Nat → Int32) (o_kold : Int32) (o_kwai : Int32) (o_ksnt : Int32) (o_ksen : Nat → Int32)  (hgv : hgs p1.toNatClampNeg = some g0) (hzC : ("java/lang/String", "COMPACT_STRINGS", "Z", Value.int 1) ∈ E.2.2.1) (hzN : (R_LI, "WANTS", "[I", Value.ref w8) ∈ E.2.2.1) (hzW : (R_MO, "WORDS", "[I", Value.ref w9) ∈ E.2.2.1) (htN : (w8, 28, wN) ∈ E.2.2.2.1) (htW : (w9, 410, wW) ∈ E.2.2.2.1) (h : f_GT_loadg l1 wW wN htl swd slb sla sul sua suL l9 lat len llb lor laa lbb lnu lwa ltx vmem vreg vblk ktyp ksen p1 p2 p3 p4 = some (o_r, o_htl, o_hlf, o_hll, o_shr, o_sft, o_sfl, o_slc, o_suc, o_swd, o_slb, o_sla, o_sul, o_sua, o_suL, o_l9, o_lat, o_len, o_llb, o_lor, o_laa, o_lbb, o_lnu, o_lwa, o_gsz, o_gdp, o_gst, o_gsp, o_vsz, o_vmd, o_vpc, o_vba, o_vbo, o_vre, o_vti, o_vro, o_vha, o_vmem, o_vreg, o_vblk, o_kold, o_kwai, o_ksnt, o_ksen)) : CTi l E y_GT_load c_GT_load 6 (some .int) ({ frames := 9, cells := 0, slots := 0, locals := 203 }) [.ref t0, .int p1, .int p2, .int p3, .int p4] [(t0, .inr (5, [.ref l1, .int htl, .ref s0, .ref h2, .int hlf, .int hll])), (h2, .inl (E.2.1 4, 3, .inr (.inr (.inr (.inr hgs))))), (s0, .inr (4, [.ref s1, .int shr, .int sft, .int sfl, .ref l0, .ref s2, .ref s3, .int slc, .ref s4, .ref s5, .ref s6, .int suc])), (s1, .inl (E.2.1 0, 1024, .inl swd)), (s2, .inl (E.2.1 1, 100, .inr (.inl slb))), (s3, .inl (E.2.1 0, 100, .inl sla)), (s4, .inl (E.2.1 1, 1024, .inr (.inl sul))), (s5, .inl (E.2.1 0, 1024, .inl sua)), (s6, .inl (E.2.1 0, 1024, .inl suL)), (l0, .inr (3, [.ref l9, .int lat, .int len, .long llb, .int lor, .int laa, .int lbb, .int lnu, .long lwa])), (l1, .inl (E.2.1 0, 3000, .inl ltx)), (g0, .inr (2, [.ref a0, .int gsz, .int gdp, .int gst, .int gsp])), (a0, .inr (0, [.ref a1, .ref a2, .ref a3, .ref k0, .int vsz, .int vmd, .int vpc, .int vba, .int vbo, .int vre, .int vti, .int vro, .int vha])), (a1, .inl (E.2.1 0, 1844, .inl vmem)), (a2, .inl (E.2.1 0, 8, .inl vreg)), (a3, .inl (E.2.1 0, 128, .inl vblk)), (k0, .inr (1, [.ref k1, .ref k2, .int kold, .int kwai, .int ksnt])), (k1, .inl (E.2.1 0, 100, .inl ktyp)), (k2, .inl (E.2.1 0, 500, .inl ksen))] sz o_r [(t0, .inr (5, [.ref l1, .int o_htl, .ref s0, .ref h2, .int o_hlf, .int o_hll])), (h2, .inl (E.2.1 4, 3, .inr (.inr (.inr (.inr (va_up hgs p1.toNatClampNeg (some g0))))))), (s0, .inr (4, [.ref s1, .int o_shr, .int o_sft, .int o_sfl, .ref l0, .ref s2, .ref s3, .int o_slc, .ref s4, .ref s5, .ref s6, .int o_suc])), (s1, .inl (E.2.1 0, 1024, .inl o_swd)), (s2, .inl (E.2.1 1, 100, .inr (.inl o_slb))), (s3, .inl (E.2.1 0, 100, .inl o_sla)), (s4, .inl (E.2.1 1, 1024, .inr (.inl o_sul))), (s5, .inl (E.2.1 0, 1024, .inl o_sua)), (s6, .inl (E.2.1 0, 1024, .inl o_suL)), (l0, .inr (3, [.ref o_l9, .int o_lat, .int o_len, .long o_llb, .int o_lor, .int o_laa, .int o_lbb, .int o_lnu, .long o_lwa])), (l1, .inl (E.2.1 0, 3000, .inl ltx)), (g0, .inr (2, [.ref a0, .int o_gsz, .int o_gdp, .int o_gst, .int o_gsp])), (a0, .inr (0, [.ref a1, .ref a2, .ref a3, .ref k0, .int o_vsz, .int o_vmd, .int o_vpc, .int o_vba, .int o_vbo, .int o_vre, .int o_vti, .int o_vro, .int o_vha])), (a1, .inl (E.2.1 0, 1844, .inl o_vmem)), (a2, .inl (E.2.1 0, 8, .inl o_vreg)), (a3, .inl (E.2.1 0, 128, .inl o_vblk)), (k0, .inr (1, [.ref k1, .ref k2, .int o_kold, .int o_kwai, .int o_ksnt])), (k1, .inl (E.2.1 0, 100, .inl ktyp)), (k2, .inl (E.2.1 0, 500, .inl o_ksen))] := by
  refine jw (by decide +kernel) (Nat.le_of_ble_eq_true rfl) ?_
  intro p e s m below meth c A ls J hJ hAe hsz hA hZ hP hD hl
  rw [← hAe]
  have hS : va_S A s.heap s.heap [] := va_S.rf
  have hl : lv_has ls 6 [(0, .ref t0), (1, .int p1), (2, .int p2), (3, .int p3), (4, .int p4)] := hl
  unfold f_GT_loadg at h
  refine lv_iload_n J.1 J.2.1 d_GT_load_0 rfl (lv_at hl 1 rfl) ?_
  replace h := g_bd h
  obtain ⟨r_1, q_1, h⟩ := h
  have hq := ct_GT_isGuest l E  s.heap.size  p1 r_1 q_1
  have hr := jrunS (p := p) (e := e) (below := below) (R := ({ frames := 9, cells := 0, slots := 0, locals := 203 })) (cells := 0) (slots := 0) (As := [.int p1]) (rest := []) J hJ hA hZ hP hD hS hq [] rfl (by decide) gl_GT_40 gs_GT_isGuest gini_GT gc_GT_isGuest hd_GT_isGuest ⟨rfl, rfl, Nat.le_of_ble_eq_true rfl, Nat.le_of_ble_eq_true rfl⟩ hl.1 rfl rfl (Nat.le_of_ble_eq_true rfl) d_GT_load_1 ⟨Nat.zero_le _, Nat.zero_le _⟩
  clear hq
  refine jk_i hr hA hP hD hS [] [0, 1, 2, 3, 4, 5, 6, 7, 8, 9, 10, 11, 12, 13, 14, 15, 16, 17, 18] (WR := [(t0, .inr (5, [.ref l1, .int htl, .ref s0, .ref h2, .int hlf, .int hll])), (h2, .inl (E.2.1 4, 3, .inr (.inr (.inr (.inr hgs))))), (s0, .inr (4, [.ref s1, .int shr, .int sft, .int sfl, .ref l0, .ref s2, .ref s3, .int slc, .ref s4, .ref s5, .ref s6, .int suc])), (s1, .inl (E.2.1 0, 1024, .inl swd)), (s2, .inl (E.2.1 1, 100, .inr (.inl slb))), (s3, .inl (E.2.1 0, 100, .inl sla)), (s4, .inl (E.2.1 1, 1024, .inr (.inl sul))), (s5, .inl (E.2.1 0, 1024, .inl sua)), (s6, .inl (E.2.1 0, 1024, .inl suL)), (l0, .inr (3, [.ref l9, .int lat, .int len, .long llb, .int lor, .int laa, .int lbb, .int lnu, .long lwa])), (l1, .inl (E.2.1 0, 3000, .inl ltx)), (g0, .inr (2, [.ref a0, .int gsz, .int gdp, .int gst, .int gsp])), (a0, .inr (0, [.ref a1, .ref a2, .ref a3, .ref k0, .int vsz, .int vmd, .int vpc, .int vba, .int vbo, .int vre, .int vti, .int vro, .int vha])), (a1, .inl (E.2.1 0, 1844, .inl vmem)), (a2, .inl (E.2.1 0, 8, .inl vreg)), (a3, .inl (E.2.1 0, 128, .inl vblk)), (k0, .inr (1, [.ref k1, .ref k2, .int kold, .int kwai, .int ksnt])), (k1, .inl (E.2.1 0, 100, .inl ktyp)), (k2, .inl (E.2.1 0, 500, .inl ksen))]) rfl rfl (by decide) (by decide) [0, 1, 2, 3, 4, 5, 6, 7, 8, 9, 10, 11, 12, 13, 14, 15, 16, 17, 18] (WF := [(t0, .inr (5, [.ref l1, .int htl, .ref s0, .ref h2, .int hlf, .int hll])), (h2, .inl (E.2.1 4, 3, .inr (.inr (.inr (.inr hgs))))), (s0, .inr (4, [.ref s1, .int shr, .int sft, .int sfl, .ref l0, .ref s2, .ref s3, .int slc, .ref s4, .ref s5, .ref s6, .int suc])), (s1, .inl (E.2.1 0, 1024, .inl swd)), (s2, .inl (E.2.1 1, 100, .inr (.inl slb))), (s3, .inl (E.2.1 0, 100, .inl sla)), (s4, .inl (E.2.1 1, 1024, .inr (.inl sul))), (s5, .inl (E.2.1 0, 1024, .inl sua)), (s6, .inl (E.2.1 0, 1024, .inl suL)), (l0, .inr (3, [.ref l9, .int lat, .int len, .long llb, .int lor, .int laa, .int lbb, .int lnu, .long lwa])), (l1, .inl (E.2.1 0, 3000, .inl ltx)), (g0, .inr (2, [.ref a0, .int gsz, .int gdp, .int gst, .int gsp])), (a0, .inr (0, [.ref a1, .ref a2, .ref a3, .ref k0, .int vsz, .int vmd, .int vpc, .int vba, .int vbo, .int vre, .int vti, .int vro, .int vha])), (a1, .inl (E.2.1 0, 1844, .inl vmem)), (a2, .inl (E.2.1 0, 8, .inl vreg)), (a3, .inl (E.2.1 0, 128, .inl vblk)), (k0, .inr (1, [.ref k1, .ref k2, .int kold, .int kwai, .int ksnt])), (k1, .inl (E.2.1 0, 100, .inl ktyp)), (k2, .inl (E.2.1 0, 500, .inl ksen))]) rfl (by decide) ?_
  clear hP hD hS
  intro H locs hP hD hS
  clear hr
  refine lv_if_eq (tgt := 20) J.1 J.2.1 d_GT_load_4 (by decide) (fun c_2 => ?_) (fun c_2 => ?_)
  · replace h := g_t c_2 h
    cases h
  · replace h := g_f c_2 h
    refine lv_iload_n J.1 J.2.1 d_GT_load_7 rfl (lv_at hl 2 rfl) ?_
    refine lv_bipush (v := 64) J.1 J.2.1 d_GT_load_8 (by decide) ?_
    refine lv_icmp_lt (tgt := 20) J.1 J.2.1 d_GT_load_10 (by decide) (fun c_3 => ?_) (fun c_3 => ?_)
    · replace h := g_t c_3 h
      cases h
    · replace h := g_f c_3 h
      refine lv_iload_n J.1 J.2.1 d_GT_load_13 rfl (lv_at hl 2 rfl) ?_
      refine lv_sipush (v := 1024) J.1 J.2.1 d_GT_load_14 (by decide) ?_
      refine lv_icmp_le (tgt := 23) J.1 J.2.1 d_GT_load_17 (by decide) (fun c_4 => ?_) (fun c_4 => ?_)
      · replace h := g_t c_4 h
        refine lv_iload_n J.1 J.2.1 d_GT_load_23 rfl (lv_at hl 3 rfl) ?_
        refine lv_if_lt (tgt := 46) J.1 J.2.1 d_GT_load_24 (by decide) (fun c_5 => ?_) (fun c_5 => ?_)
        · replace h := g_t c_5 h
          cases h
        · replace h := g_f c_5 h
          refine lv_iload_n J.1 J.2.1 d_GT_load_27 rfl (lv_at hl 3 rfl) ?_
          refine lv_iconst (v := 2) J.1 J.2.1 d_GT_load_28 (by decide) ?_
          refine lv_icmp_gt (tgt := 46) J.1 J.2.1 d_GT_load_29 (by decide) (fun c_6 => ?_) (fun c_6 => ?_)
          · replace h := g_t c_6 h
            cases h
          · replace h := g_f c_6 h
            refine lv_iload J.1 J.2.1 d_GT_load_32 (lv_at hl 4 rfl) ?_
            refine lv_if_lt (tgt := 46) J.1 J.2.1 d_GT_load_34 (by decide) (fun c_7 => ?_) (fun c_7 => ?_)
            · replace h := g_t c_7 h
              cases h
            · replace h := g_f c_7 h
              refine lv_iload J.1 J.2.1 d_GT_load_37 (lv_at hl 4 rfl) ?_
              refine lv_aload_n J.1 J.2.1 d_GT_load_39 rfl (lv_at hl 0 rfl) ?_
              refine jg J hJ hP 0 rfl rfl i_GT 1 (by decide) gf_GT_13 rfl d_GT_load_40 ?_
              refine lv_icmp_le (tgt := 49) J.1 J.2.1 d_GT_load_43 (by decide) (fun c_8 => ?_) (fun c_8 => ?_)
              · replace h := g_t c_8 h
                refine lv_aload_n J.1 J.2.1 d_GT_load_49 rfl (lv_at hl 0 rfl) ?_
                refine jg J hJ hP 0 rfl rfl i_GT 2 (by decide) gf_GT_20 rfl d_GT_load_50 ?_
                refine lv_aload_n J.1 J.2.1 d_GT_load_53 rfl (lv_at hl 0 rfl) ?_
                refine jg J hJ hP 0 rfl rfl i_GT 0 (by decide) gf_GT_9 rfl d_GT_load_54 ?_
                refine lv_iload J.1 J.2.1 d_GT_load_57 (lv_at hl 4 rfl) ?_
                refine lv_iload_n J.1 J.2.1 d_GT_load_59 rfl (lv_at hl 2 rfl) ?_
                replace h := g_bd h
                obtain ⟨⟨shr_9, sft_9, sfl_9, slc_9, suc_9, swd_9, slb_9, sla_9, sul_9, sua_9, suL_9, l9_9, lat_9, len_9, llb_9, lor_9, laa_9, lbb_9, lnu_9, lwa_9⟩, q_9, h⟩ := h
                try dsimp only at h
                have hq := ct_AS_assemble l E l0 l1 s0 s1 s2 s3 s4 s5 s6 w8 H.size wN shr sft sfl slc suc swd slb sla sul sua suL l9 lat len llb lor laa lbb lnu lwa ltx p4 p2 shr_9 sft_9 sfl_9 slc_9 suc_9 swd_9 slb_9 sla_9 sul_9 sua_9 suL_9 l9_9 lat_9 len_9 llb_9 lor_9 laa_9 lbb_9 lnu_9 lwa_9 hzC hzN htN q_9
                have hr := jrunV (p := p) (e := e) (below := below) (R := ({ frames := 9, cells := 0, slots := 0, locals := 203 })) (cells := 0) (slots := 0) (As := [.ref l1, .int p4, .int p2]) (rest := []) J hJ hA hZ hP hD hS hq [2, 3, 4, 5, 6, 7, 8, 9, 10] rfl (by decide) gl_GT_44 gi_AS_assemble gsel_AS_assemble gini_AS gc_AS_assemble hd_AS_assemble ⟨rfl, rfl, Nat.le_of_ble_eq_true rfl, Nat.le_of_ble_eq_true rfl⟩ rfl rfl hl.1 rfl rfl (Nat.le_of_ble_eq_true rfl) d_GT_load_60 ⟨Nat.zero_le _, Nat.zero_le _⟩
                clear hq
                refine jk_v hr hA hP hD hS [2, 3, 4, 5, 6, 7, 8, 9, 10] [0, 1, 11, 12, 13, 14, 15, 16, 17, 18] (WR := [(t0, .inr (5, [.ref l1, .int htl, .ref s0, .ref h2, .int hlf, .int hll])), (h2, .inl (E.2.1 4, 3, .inr (.inr (.inr (.inr hgs))))), (g0, .inr (2, [.ref a0, .int gsz, .int gdp, .int gst, .int gsp])), (a0, .inr (0, [.ref a1, .ref a2, .ref a3, .ref k0, .int vsz, .int vmd, .int vpc, .int vba, .int vbo, .int vre, .int vti, .int vro, .int vha])), (a1, .inl (E.2.1 0, 1844, .inl vmem)), (a2, .inl (E.2.1 0, 8, .inl vreg)), (a3, .inl (E.2.1 0, 128, .inl vblk)), (k0, .inr (1, [.ref k1, .ref k2, .int kold, .int kwai, .int ksnt])), (k1, .inl (E.2.1 0, 100, .inl ktyp)), (k2, .inl (E.2.1 0, 500, .inl ksen))]) rfl rfl (by decide) (by decide) [0, 1, 10, 11, 12, 13, 14, 15, 16, 17, 18, 2, 3, 4, 5, 6, 7, 8, 9] (WF := [(t0, .inr (5, [.ref l1, .int htl, .ref s0, .ref h2, .int hlf, .int hll])), (h2, .inl (E.2.1 4, 3, .inr (.inr (.inr (.inr hgs))))), (s0, .inr (4, [.ref s1, .int shr_9, .int sft_9, .int sfl_9, .ref l0, .ref s2, .ref s3, .int slc_9, .ref s4, .ref s5, .ref s6, .int suc_9])), (s1, .inl (E.2.1 0, 1024, .inl swd_9)), (s2, .inl (E.2.1 1, 100, .inr (.inl slb_9))), (s3, .inl (E.2.1 0, 100, .inl sla_9)), (s4, .inl (E.2.1 1, 1024, .inr (.inl sul_9))), (s5, .inl (E.2.1 0, 1024, .inl sua_9)), (s6, .inl (E.2.1 0, 1024, .inl suL_9)), (l0, .inr (3, [.ref l9_9, .int lat_9, .int len_9, .long llb_9, .int lor_9, .int laa_9, .int lbb_9, .int lnu_9, .long lwa_9])), (l1, .inl (E.2.1 0, 3000, .inl ltx)), (g0, .inr (2, [.ref a0, .int gsz, .int gdp, .int gst, .int gsp])), (a0, .inr (0, [.ref a1, .ref a2, .ref a3, .ref k0, .int vsz, .int vmd, .int vpc, .int vba, .int vbo, .int vre, .int vti, .int vro, .int vha])), (a1, .inl (E.2.1 0, 1844, .inl vmem)), (a2, .inl (E.2.1 0, 8, .inl vreg)), (a3, .inl (E.2.1 0, 128, .inl vblk)), (k0, .inr (1, [.ref k1, .ref k2, .int kold, .int kwai, .int ksnt])), (k1, .inl (E.2.1 0, 100, .inl ktyp)), (k2, .inl (E.2.1 0, 500, .inl ksen))]) rfl (by decide) ?_
                clear hP hD hS
                intro H locs hP hD hS
                clear hr
                refine lv_aload_n J.1 J.2.1 d_GT_load_63 rfl (lv_at hl 0 rfl) ?_
                refine lv_iconst (v := 0) J.1 J.2.1 d_GT_load_64 (by decide) ?_
                refine jp J hJ hP hD hS 0 rfl rfl i_GT t_GT t_GT_ok n_GT 1 (by decide) gf_GT_13 rfl rfl rfl (Nat.le_of_ble_eq_true rfl) d_GT_load_65 (WS' := [(t0, .inr (5, [.ref l1, .int 0, .ref s0, .ref h2, .int hlf, .int hll])), (h2, .inl (E.2.1 4, 3, .inr (.inr (.inr (.inr hgs))))), (s0, .inr (4, [.ref s1, .int shr_9, .int sft_9, .int sfl_9, .ref l0, .ref s2, .ref s3, .int slc_9, .ref s4, .ref s5, .ref s6, .int suc_9])), (s1, .inl (E.2.1 0, 1024, .inl swd_9)), (s2, .inl (E.2.1 1, 100, .inr (.inl slb_9))), (s3, .inl (E.2.1 0, 100, .inl sla_9)), (s4, .inl (E.2.1 1, 1024, .inr (.inl sul_9))), (s5, .inl (E.2.1 0, 1024, .inl sua_9)), (s6, .inl (E.2.1 0, 1024, .inl suL_9)), (l0, .inr (3, [.ref l9_9, .int lat_9, .int len_9, .long llb_9, .int lor_9, .int laa_9, .int lbb_9, .int lnu_9, .long lwa_9])), (l1, .inl (E.2.1 0, 3000, .inl ltx)), (g0, .inr (2, [.ref a0, .int gsz, .int gdp, .int gst, .int gsp])), (a0, .inr (0, [.ref a1, .ref a2, .ref a3, .ref k0, .int vsz, .int vmd, .int vpc, .int vba, .int vbo, .int vre, .int vti, .int vro, .int vha])), (a1, .inl (E.2.1 0, 1844, .inl vmem)), (a2, .inl (E.2.1 0, 8, .inl vreg)), (a3, .inl (E.2.1 0, 128, .inl vblk)), (k0, .inr (1, [.ref k1, .ref k2, .int kold, .int kwai, .int ksnt])), (k1, .inl (E.2.1 0, 100, .inl ktyp)), (k2, .inl (E.2.1 0, 500, .inl ksen))]) rfl ?_
                clear hP hD hS
                intro H locs hP hD hS
                refine lv_aload_n J.1 J.2.1 d_GT_load_68 rfl (lv_at hl 0 rfl) ?_
                refine lv_aload_n J.1 J.2.1 d_GT_load_69 rfl (lv_at hl 0 rfl) ?_
                refine jg J hJ hP 0 rfl rfl i_GT 2 (by decide) gf_GT_20 rfl d_GT_load_70 ?_
                refine jgN J hJ hP 2 rfl rfl i_AS 2 (by decide) gn_GT_48 rfl d_GT_load_73 ?_
                refine jp J hJ hP hD hS 0 rfl rfl i_GT t_GT t_GT_ok n_GT 4 (by decide) gf_GT_30 rfl rfl rfl (Nat.le_of_ble_eq_true rfl) d_GT_load_76 (WS' := [(t0, .inr (5, [.ref l1, .int 0, .ref s0, .ref h2, .int sft_9, .int hll])), (h2, .inl (E.2.1 4, 3, .inr (.inr (.inr (.inr hgs))))), (s0, .inr (4, [.ref s1, .int shr_9, .int sft_9, .int sfl_9, .ref l0, .ref s2, .ref s3, .int slc_9, .ref s4, .ref s5, .ref s6, .int suc_9])), (s1, .inl (E.2.1 0, 1024, .inl swd_9)), (s2, .inl (E.2.1 1, 100, .inr (.inl slb_9))), (s3, .inl (E.2.1 0, 100, .inl sla_9)), (s4, .inl (E.2.1 1, 1024, .inr (.inl sul_9))), (s5, .inl (E.2.1 0, 1024, .inl sua_9)), (s6, .inl (E.2.1 0, 1024, .inl suL_9)), (l0, .inr (3, [.ref l9_9, .int lat_9, .int len_9, .long llb_9, .int lor_9, .int laa_9, .int lbb_9, .int lnu_9, .long lwa_9])), (l1, .inl (E.2.1 0, 3000, .inl ltx)), (g0, .inr (2, [.ref a0, .int gsz, .int gdp, .int gst, .int gsp])), (a0, .inr (0, [.ref a1, .ref a2, .ref a3, .ref k0, .int vsz, .int vmd, .int vpc, .int vba, .int vbo, .int vre, .int vti, .int vro, .int vha])), (a1, .inl (E.2.1 0, 1844, .inl vmem)), (a2, .inl (E.2.1 0, 8, .inl vreg)), (a3, .inl (E.2.1 0, 128, .inl vblk)), (k0, .inr (1, [.ref k1, .ref k2, .int kold, .int kwai, .int ksnt])), (k1, .inl (E.2.1 0, 100, .inl ktyp)), (k2, .inl (E.2.1 0, 500, .inl ksen))]) rfl ?_
                clear hP hD hS
                intro H locs hP hD hS
                refine lv_aload_n J.1 J.2.1 d_GT_load_79 rfl (lv_at hl 0 rfl) ?_
                refine lv_aload_n J.1 J.2.1 d_GT_load_80 rfl (lv_at hl 0 rfl) ?_
                refine jg J hJ hP 0 rfl rfl i_GT 2 (by decide) gf_GT_20 rfl d_GT_load_81 ?_
                refine jgN J hJ hP 2 rfl rfl i_AS 3 (by decide) gn_GT_51 rfl d_GT_load_84 ?_
                refine jp J hJ hP hD hS 0 rfl rfl i_GT t_GT t_GT_ok n_GT 5 (by decide) gf_GT_33 rfl rfl rfl (Nat.le_of_ble_eq_true rfl) d_GT_load_87 (WS' := [(t0, .inr (5, [.ref l1, .int 0, .ref s0, .ref h2, .int sft_9, .int sfl_9])), (h2, .inl (E.2.1 4, 3, .inr (.inr (.inr (.inr hgs))))), (s0, .inr (4, [.ref s1, .int shr_9, .int sft_9, .int sfl_9, .ref l0, .ref s2, .ref s3, .int slc_9, .ref s4, .ref s5, .ref s6, .int suc_9])), (s1, .inl (E.2.1 0, 1024, .inl swd_9)), (s2, .inl (E.2.1 1, 100, .inr (.inl slb_9))), (s3, .inl (E.2.1 0, 100, .inl sla_9)), (s4, .inl (E.2.1 1, 1024, .inr (.inl sul_9))), (s5, .inl (E.2.1 0, 1024, .inl sua_9)), (s6, .inl (E.2.1 0, 1024, .inl suL_9)), (l0, .inr (3, [.ref l9_9, .int lat_9, .int len_9, .long llb_9, .int lor_9, .int laa_9, .int lbb_9, .int lnu_9, .long lwa_9])), (l1, .inl (E.2.1 0, 3000, .inl ltx)), (g0, .inr (2, [.ref a0, .int gsz, .int gdp, .int gst, .int gsp])), (a0, .inr (0, [.ref a1, .ref a2, .ref a3, .ref k0, .int vsz, .int vmd, .int vpc, .int vba, .int vbo, .int vre, .int vti, .int vro, .int vha])), (a1, .inl (E.2.1 0, 1844, .inl vmem)), (a2, .inl (E.2.1 0, 8, .inl vreg)), (a3, .inl (E.2.1 0, 128, .inl vblk)), (k0, .inr (1, [.ref k1, .ref k2, .int kold, .int kwai, .int ksnt])), (k1, .inl (E.2.1 0, 100, .inl ktyp)), (k2, .inl (E.2.1 0, 500, .inl ksen))]) rfl ?_
                clear hP hD hS
                intro H locs hP hD hS
                refine lv_aload_n J.1 J.2.1 d_GT_load_90 rfl (lv_at hl 0 rfl) ?_
                refine jg J hJ hP 0 rfl rfl i_GT 4 (by decide) gf_GT_30 rfl d_GT_load_91 ?_
                refine lv_if_eq (tgt := 99) J.1 J.2.1 d_GT_load_94 (by decide) (fun c_10 => ?_) (fun c_10 => ?_)
                · replace h := g_t c_10 h
                  refine lv_aload_n J.1 J.2.1 d_GT_load_99 rfl (lv_at hl 0 rfl) ?_
                  refine jg J hJ hP 0 rfl rfl i_GT 3 (by decide) gf_GT_26 rfl d_GT_load_100 ?_
                  refine lv_iload_n J.1 J.2.1 d_GT_load_103 rfl (lv_at hl 1 rfl) ?_
                  replace h := g_ck h
                  obtain ⟨k_11, h⟩ := h
                  refine va_aldq J.1 J.2.1 hJ.1 hP 1 4 rfl rfl k_11 d_GT_load_104 ?_
                  rw [hgv]
                  show W _ _ _ _ _ _ _ _ _ _ _ _ _ _ _ (F0 _ _ _ (.ref g0 :: _))
                  refine lv_ifnonnull (tgt := 118) J.1 J.2.1 d_GT_load_105 (by decide) ?_
                  refine lv_aload_n J.1 J.2.1 d_GT_load_118 rfl (lv_at hl 0 rfl) ?_
                  refine jg J hJ hP 0 rfl rfl i_GT 3 (by decide) gf_GT_26 rfl d_GT_load_119 ?_
                  refine lv_iload_n J.1 J.2.1 d_GT_load_122 rfl (lv_at hl 1 rfl) ?_
                  replace h := g_ck h
                  obtain ⟨k_12, h⟩ := h
                  refine va_aldq J.1 J.2.1 hJ.1 hP 1 4 rfl rfl k_12 d_GT_load_123 ?_
                  rw [hgv]
                  show W _ _ _ _ _ _ _ _ _ _ _ _ _ _ _ (F0 _ _ _ (.ref g0 :: _))
                  replace h := g_bd h
                  obtain ⟨⟨r_13, gsz_13, gdp_13, gst_13, gsp_13, vsz_13, vmd_13, vpc_13, vba_13, vbo_13, vre_13, vti_13, vro_13, vha_13, vmem_13, vreg_13, vblk_13, kold_13, kwai_13, ksnt_13, ksen_13⟩, q_13, h⟩ := h
                  try dsimp only at h
                  refine ld_124 J hJ hA hZ hzW htW q_13 hP hD hS (lv_sub hl [0, 1, 2, 3] rfl) (Nat.le_of_ble_eq_true rfl) (Nat.le_of_ble_eq_true rfl) ⟨Nat.le_of_ble_eq_true rfl, Nat.le_of_ble_eq_true rfl⟩ ?_
                  clear hP hD hS
                  intro H locs hP hD hS ls
                  have h := Option.some.inj h
                  have e_0 := (Prod.mk.inj h).1
                  have h := (Prod.mk.inj h).2
                  have e_1 := (Prod.mk.inj h).1
                  have h := (Prod.mk.inj h).2
                  have e_2 := (Prod.mk.inj h).1
                  have h := (Prod.mk.inj h).2
                  have e_3 := (Prod.mk.inj h).1
                  have h := (Prod.mk.inj h).2
                  have e_4 := (Prod.mk.inj h).1
                  have h := (Prod.mk.inj h).2
                  have e_5 := (Prod.mk.inj h).1
                  have h := (Prod.mk.inj h).2
                  have e_6 := (Prod.mk.inj h).1
                  have h := (Prod.mk.inj h).2
                  have e_7 := (Prod.mk.inj h).1
                  have h := (Prod.mk.inj h).2
                  have e_8 := (Prod.mk.inj h).1
                  have h := (Prod.mk.inj h).2
                  have e_9 := (Prod.mk.inj h).1
                  have h := (Prod.mk.inj h).2
                  have e_10 := (Prod.mk.inj h).1
                  have h := (Prod.mk.inj h).2
                  have e_11 := (Prod.mk.inj h).1
                  have h := (Prod.mk.inj h).2
                  have e_12 := (Prod.mk.inj h).1
                  have h := (Prod.mk.inj h).2
                  have e_13 := (Prod.mk.inj h).1
                  have h := (Prod.mk.inj h).2
                  have e_14 := (Prod.mk.inj h).1
                  have h := (Prod.mk.inj h).2
                  have e_15 := (Prod.mk.inj h).1
                  have h := (Prod.mk.inj h).2
                  have e_16 := (Prod.mk.inj h).1
                  have h := (Prod.mk.inj h).2
                  have e_17 := (Prod.mk.inj h).1
                  have h := (Prod.mk.inj h).2
                  have e_18 := (Prod.mk.inj h).1
                  have h := (Prod.mk.inj h).2
                  have e_19 := (Prod.mk.inj h).1
                  have h := (Prod.mk.inj h).2
                  have e_20 := (Prod.mk.inj h).1
                  have h := (Prod.mk.inj h).2
                  have e_21 := (Prod.mk.inj h).1
                  have h := (Prod.mk.inj h).2
                  have e_22 := (Prod.mk.inj h).1
                  have h := (Prod.mk.inj h).2
                  have e_23 := (Prod.mk.inj h).1
                  have h := (Prod.mk.inj h).2
                  have e_24 := (Prod.mk.inj h).1
                  have h := (Prod.mk.inj h).2
                  have e_25 := (Prod.mk.inj h).1
                  have h := (Prod.mk.inj h).2
                  have e_26 := (Prod.mk.inj h).1
                  have h := (Prod.mk.inj h).2
                  have e_27 := (Prod.mk.inj h).1
                  have h := (Prod.mk.inj h).2
                  have e_28 := (Prod.mk.inj h).1
                  have h := (Prod.mk.inj h).2
                  have e_29 := (Prod.mk.inj h).1
                  have h := (Prod.mk.inj h).2
                  have e_30 := (Prod.mk.inj h).1
                  have h := (Prod.mk.inj h).2
                  have e_31 := (Prod.mk.inj h).1
                  have h := (Prod.mk.inj h).2
                  have e_32 := (Prod.mk.inj h).1
                  have h := (Prod.mk.inj h).2
                  have e_33 := (Prod.mk.inj h).1
                  have h := (Prod.mk.inj h).2
                  have e_34 := (Prod.mk.inj h).1
                  have h := (Prod.mk.inj h).2
                  have e_35 := (Prod.mk.inj h).1
                  have h := (Prod.mk.inj h).2
                  have e_36 := (Prod.mk.inj h).1
                  have h := (Prod.mk.inj h).2
                  have e_37 := (Prod.mk.inj h).1
                  have h := (Prod.mk.inj h).2
                  have e_38 := (Prod.mk.inj h).1
                  have h := (Prod.mk.inj h).2
                  have e_39 := (Prod.mk.inj h).1
                  have h := (Prod.mk.inj h).2
                  have e_40 := (Prod.mk.inj h).1
                  have h := (Prod.mk.inj h).2
                  have e_41 := (Prod.mk.inj h).1
                  have h := (Prod.mk.inj h).2
                  have e_42 := (Prod.mk.inj h).1
                  have h := (Prod.mk.inj h).2
                  rw [← e_0, ← e_1, ← e_2, ← e_3, ← e_4, ← e_5, ← e_6, ← e_7, ← e_8, ← e_9, ← e_10, ← e_11, ← e_12, ← e_13, ← e_14, ← e_15, ← e_16, ← e_17, ← e_18, ← e_19, ← e_20, ← e_21, ← e_22, ← e_23, ← e_24, ← e_25, ← e_26, ← e_27, ← e_28, ← e_29, ← e_30, ← e_31, ← e_32, ← e_33, ← e_34, ← e_35, ← e_36, ← e_37, ← e_38, ← e_39, ← e_40, ← e_41, ← e_42, ← h]
                  exact jr_i J hS hP hD rfl d_GT_load_162
                · replace h := g_f c_10 h
                  cases h
              · replace h := g_f c_8 h
                cases h
      · replace h := g_f c_4 h
        cases h

abbrev CTm (l : Launch) (E : jz_E) (y : MethodName) (cc : ByteArray) (mL : Nat) (rt : Option FieldType) (rm : Room) (av : List Value) (WS : va_W) (sz : Nat) (r : Int32) (S : Type) (wn : S → va_W) (mc ms : Nat) : Prop := Met l y (Cond.code y cc mL rt :: G) rm (va_Pc av (PW E WS sz)) (va_Qi (fun (r' : Int32) (_ : S) => r' = r) (fun u t => BW E (va_A WS sz) (wn u) t) (va_A WS sz)) mc ms (va_A WS sz)
theorem jr_m {p : Program} {l : Launch} {e : Env} {R : Room} {s : State} {m : MethodId} {args : Array Value} {below : List Frame} {meth : Method} {c : Code} {H : Heap} {locs : List Loc} {cells slots : Nat} {cc : ByteArray} {nL pc : Nat} {ls : Array Slot} {E : jz_E} {A : Nat → Prop} {own : String} {ty : FieldType} {v : Int32} {S : Type} {wn : S → va_W} (u : S) (J : JC p s m args meth c cc nL (some ty) own) (hS : va_S A s.heap H locs) (hP : va_P E.1 classes (wn u) H) (hD : va_D A (wn u)) (hn : narrow ty (.int v) = .int v) (hdg : decode cc pc = .ok (.ireturn, 1)) : W p l e R s m args below meth c H locs cells slots (MQ below (va_Qi (fun (r' : Int32) (_ : S) => r' = v) (fun u t => BW E A (wn u) t) A) args s cells slots A) (F0 m pc ls [.int v]) := by
  obtain ⟨hx, hb, -, hr, -, -, hlocks⟩ := J
  exact W.zret hx hb hr hn (fun t ht hW => ⟨⟨v, u, rfl, rfl, by rw [ht]; exact hP, hD⟩, hS.F ht⟩) hS.2.2 hdg
def f_GT_loadn (l1 : Nat) (wW : Nat → Int32) (wN : Nat → Int32) (htl : Int32) (swd : Nat → Int32) (slb : Nat → Int64) (sla : Nat → Int32) (sul : Nat → Int64) (sua : Nat → Int32) (suL : Nat → Int32) (l9 : Nat) (lat : Int32) (len : Int32) (llb : Int64) (lor : Int32) (laa : Int32) (lbb : Int32) (lnu : Int32) (lwa : Int64) (ltx : Nat → Int32) (p1 : Int32) (p2 : Int32) (p3 : Int32) (p4 : Int32) : Option (Int32 × Int32 × Int32 × Int32 × Int32 × Int32 × Int32 × Int32 × Int32 × (Nat → Int32) × (Nat → Int64) × (Nat → Int32) × (Nat → Int64) × (Nat → Int32) × (Nat → Int32) × Nat × Int32 × Int32 × Int64 × Int32 × Int32 × Int32 × Int32 × Int64 × Int32 × Int32 × Int32 × Int32 × Int32 × Int32 × Int32 × Int32 × Int32 × Int32 × Int32 × Int32 × Int32 × (Nat → Int32) × (Nat → Int32) × (Nat → Int32) × Int32 × Int32 × Int32 × (Nat → Int32)) := ((f_GT_isGuest  p1).bind fun r_1 => (if r_1 = (0 : Int32) then none else (if p2 < (64 : Int32) then none else (if p2 ≤ (1024 : Int32) then (if p3 < (0 : Int32) then none else (if (2 : Int32) < p3 then none else (if p4 < (0 : Int32) then none else (if p4 ≤ htl then ((f_AS_assemble l1 wN swd slb sla sul sua suL l9 lat len llb lor laa lbb lnu lwa ltx p4 p2).bind fun (shr_9, sft_9, sfl_9, slc_9, suc_9, swd_9, slb_9, sla_9, sul_9, sua_9, suL_9, l9_9, lat_9, len_9, llb_9, lor_9, laa_9, lbb_9, lnu_9, lwa_9) => (if sft_9 = (0 : Int32) then (if ck p1 3 then ((fl_124 wW shr_9 swd_9 (fun _ => 0) (fun _ => 0) (fun _ => 0) (fun _ => 0) (fun _ => 0) p1 p2 p3).bind fun (r_12, gsz_12, gdp_12, gst_12, gsp_12, vsz_12, vmd_12, vpc_12, vba_12, vbo_12, vre_12, vti_12, vro_12, vha_12, vmem_12, vreg_12, vblk_12, kold_12, kwai_12, ksnt_12, ksen_12) => (some (r_12, 0, sft_9, sfl_9, shr_9, sft_9, sfl_9, slc_9, suc_9, swd_9, slb_9, sla_9, sul_9, sua_9, suL_9, l9_9, lat_9, len_9, llb_9, lor_9, laa_9, lbb_9, lnu_9, lwa_9, gsz_12, gdp_12, gst_12, gsp_12, vsz_12, vmd_12, vpc_12, vba_12, vbo_12, vre_12, vti_12, vro_12, vha_12, vmem_12, vreg_12, vblk_12, kold_12, kwai_12, ksnt_12, ksen_12))) else none) else none)) else none)))) else none))))
set_option maxHeartbeats 4000000 in
set_option maxRecDepth 100000 in
theorem ct_GT_loadn (l : Launch) (E : jz_E) (h2 l0 l1 s0 s1 s2 s3 s4 s5 s6 t0 w8 w9 : Nat) (sz : Nat) (wW : Nat → Int32) (wN : Nat → Int32) (htl : Int32) (hlf : Int32) (hll : Int32) (hgs : Nat → Option Nat) (shr : Int32) (sft : Int32) (sfl : Int32) (slc : Int32) (suc : Int32) (swd : Nat → Int32) (slb : Nat → Int64) (sla : Nat → Int32) (sul : Nat → Int64) (sua : Nat → Int32) (suL : Nat → Int32) (l9 : Nat) (lat : Int32) (len : Int32) (llb : Int64) (lor : Int32) (laa : Int32) (lbb : Int32) (lnu : Int32) (lwa : Int64) (ltx : Nat → Int32) (p1 : Int32) (p2 : Int32) (p3 : Int32) (p4 : Int32) (o_r : Int32) (o_htl : Int32) (o_hlf : Int32) (o_hll : Int32) (o_shr : Int32) (o_sft : Int32) (o_sfl : Int32) (o_slc : Int32) (o_suc : Int32) (o_swd : Nat → Int32) (o_slb : Nat → Int64) (o_sla : Nat → Int32) (o_sul : Nat → Int64) (o_sua : Nat → Int32) (o_suL : Nat → Int32) (o_l9 : Nat) (o_lat : Int32) (o_len : Int32) (o_llb : Int64) (o_lor : Int32) (o_laa : Int32) (o_lbb : Int32) (o_lnu : Int32) (o_lwa : Int64) (o_gsz : Int32) (o_gdp : Int32) (o_gst : Int32) (o_gsp : Int32) (o_vsz : Int32) (o_vmd : Int32) (o_vpc : Int32) (o_vba : Int32) (o_vbo : Int32) (o_vre : Int32) (o_vti : Int32) (o_vro : Int32) (o_vha : Int32) (o_vmem : Nat → Int32) (o_vreg : Nat → Int32) (o_vblk : Nat → Int32) (o_kold : Int32) (o_kwai : Int32) (o_ksnt : Int32) (o_ksen : Nat → Int32)  (hgv : hgs p1.toNatClampNeg = none) (hzC : ("java/lang/String", "COMPACT_STRINGS", "Z", Value.int 1) ∈ E.2.2.1) (hzN : (R_LI, "WANTS", "[I", Value.ref w8) ∈ E.2.2.1) (hzW : (R_MO, "WORDS", "[I", Value.ref w9) ∈ E.2.2.1) (htN : (w8, 28, wN) ∈ E.2.2.2.1) (htW : (w9, 410, wW) ∈ E.2.2.2.1) (h : f_GT_loadn l1 wW wN htl swd slb sla sul sua suL l9 lat len llb lor laa lbb lnu lwa ltx p1 p2 p3 p4 = some (o_r, o_htl, o_hlf, o_hll, o_shr, o_sft, o_sfl, o_slc, o_suc, o_swd, o_slb, o_sla, o_sul, o_sua, o_suL, o_l9, o_lat, o_len, o_llb, o_lor, o_laa, o_lbb, o_lnu, o_lwa, o_gsz, o_gdp, o_gst, o_gsp, o_vsz, o_vmd, o_vpc, o_vba, o_vbo, o_vre, o_vti, o_vro, o_vha, o_vmem, o_vreg, o_vblk, o_kold, o_kwai, o_ksnt, o_ksen)) : CTm l E y_GT_load c_GT_load 6 (some .int) ({ frames := 9, cells := 8, slots := 2603, locals := 203 }) [.ref t0, .int p1, .int p2, .int p3, .int p4] [(t0, .inr (5, [.ref l1, .int htl, .ref s0, .ref h2, .int hlf, .int hll])), (h2, .inl (E.2.1 4, 3, .inr (.inr (.inr (.inr hgs))))), (s0, .inr (4, [.ref s1, .int shr, .int sft, .int sfl, .ref l0, .ref s2, .ref s3, .int slc, .ref s4, .ref s5, .ref s6, .int suc])), (s1, .inl (E.2.1 0, 1024, .inl swd)), (s2, .inl (E.2.1 1, 100, .inr (.inl slb))), (s3, .inl (E.2.1 0, 100, .inl sla)), (s4, .inl (E.2.1 1, 1024, .inr (.inl sul))), (s5, .inl (E.2.1 0, 1024, .inl sua)), (s6, .inl (E.2.1 0, 1024, .inl suL)), (l0, .inr (3, [.ref l9, .int lat, .int len, .long llb, .int lor, .int laa, .int lbb, .int lnu, .long lwa])), (l1, .inl (E.2.1 0, 3000, .inl ltx))] sz o_r (Nat × Nat × Nat × Nat × Nat × Nat × Nat × Nat) (fun u => match u with | (q1, q2, q3, q4, q5, q6, q7, q8) => [(t0, .inr (5, [.ref l1, .int o_htl, .ref s0, .ref h2, .int o_hlf, .int o_hll])), (h2, .inl (E.2.1 4, 3, .inr (.inr (.inr (.inr (va_up hgs p1.toNatClampNeg (some q1))))))), (s0, .inr (4, [.ref s1, .int o_shr, .int o_sft, .int o_sfl, .ref l0, .ref s2, .ref s3, .int o_slc, .ref s4, .ref s5, .ref s6, .int o_suc])), (s1, .inl (E.2.1 0, 1024, .inl o_swd)), (s2, .inl (E.2.1 1, 100, .inr (.inl o_slb))), (s3, .inl (E.2.1 0, 100, .inl o_sla)), (s4, .inl (E.2.1 1, 1024, .inr (.inl o_sul))), (s5, .inl (E.2.1 0, 1024, .inl o_sua)), (s6, .inl (E.2.1 0, 1024, .inl o_suL)), (l0, .inr (3, [.ref o_l9, .int o_lat, .int o_len, .long o_llb, .int o_lor, .int o_laa, .int o_lbb, .int o_lnu, .long o_lwa])), (l1, .inl (E.2.1 0, 3000, .inl ltx)), (q1, .inr (2, [.ref q2, .int o_gsz, .int o_gdp, .int o_gst, .int o_gsp])), (q2, .inr (0, [.ref q3, .ref q4, .ref q5, .ref q6, .int o_vsz, .int o_vmd, .int o_vpc, .int o_vba, .int o_vbo, .int o_vre, .int o_vti, .int o_vro, .int o_vha])), (q3, .inl (E.2.1 0, 1844, .inl o_vmem)), (q4, .inl (E.2.1 0, 8, .inl o_vreg)), (q5, .inl (E.2.1 0, 128, .inl o_vblk)), (q6, .inr (1, [.ref q7, .ref q8, .int o_kold, .int o_kwai, .int o_ksnt])), (q7, .inl (E.2.1 0, 100, .inl (fun _ => 0))), (q8, .inl (E.2.1 0, 500, .inl o_ksen))]) 8 2603 := by
  refine jw (by decide +kernel) (Nat.le_of_ble_eq_true rfl) ?_
  intro p e s m below meth c A ls J hJ hAe hsz hA hZ hP hD hl
  rw [← hAe]
  have hS : va_S A s.heap s.heap [] := va_S.rf
  have hl : lv_has ls 6 [(0, .ref t0), (1, .int p1), (2, .int p2), (3, .int p3), (4, .int p4)] := hl
  unfold f_GT_loadn at h
  refine lv_iload_n J.1 J.2.1 d_GT_load_0 rfl (lv_at hl 1 rfl) ?_
  replace h := g_bd h
  obtain ⟨r_1, q_1, h⟩ := h
  have hq := ct_GT_isGuest l E  s.heap.size  p1 r_1 q_1
  have hr := jrunS (p := p) (e := e) (below := below) (R := ({ frames := 9, cells := 8, slots := 2603, locals := 203 })) (cells := 0) (slots := 0) (As := [.int p1]) (rest := []) J hJ hA hZ hP hD hS hq [] rfl (by decide) gl_GT_40 gs_GT_isGuest gini_GT gc_GT_isGuest hd_GT_isGuest ⟨rfl, rfl, Nat.le_of_ble_eq_true rfl, Nat.le_of_ble_eq_true rfl⟩ hl.1 rfl rfl (Nat.le_of_ble_eq_true rfl) d_GT_load_1 ⟨Nat.zero_le _, Nat.zero_le _⟩
  clear hq
  refine jk_i hr hA hP hD hS [] [0, 1, 2, 3, 4, 5, 6, 7, 8, 9, 10] (WR := [(t0, .inr (5, [.ref l1, .int htl, .ref s0, .ref h2, .int hlf, .int hll])), (h2, .inl (E.2.1 4, 3, .inr (.inr (.inr (.inr hgs))))), (s0, .inr (4, [.ref s1, .int shr, .int sft, .int sfl, .ref l0, .ref s2, .ref s3, .int slc, .ref s4, .ref s5, .ref s6, .int suc])), (s1, .inl (E.2.1 0, 1024, .inl swd)), (s2, .inl (E.2.1 1, 100, .inr (.inl slb))), (s3, .inl (E.2.1 0, 100, .inl sla)), (s4, .inl (E.2.1 1, 1024, .inr (.inl sul))), (s5, .inl (E.2.1 0, 1024, .inl sua)), (s6, .inl (E.2.1 0, 1024, .inl suL)), (l0, .inr (3, [.ref l9, .int lat, .int len, .long llb, .int lor, .int laa, .int lbb, .int lnu, .long lwa])), (l1, .inl (E.2.1 0, 3000, .inl ltx))]) rfl rfl (by decide) (by decide) [0, 1, 2, 3, 4, 5, 6, 7, 8, 9, 10] (WF := [(t0, .inr (5, [.ref l1, .int htl, .ref s0, .ref h2, .int hlf, .int hll])), (h2, .inl (E.2.1 4, 3, .inr (.inr (.inr (.inr hgs))))), (s0, .inr (4, [.ref s1, .int shr, .int sft, .int sfl, .ref l0, .ref s2, .ref s3, .int slc, .ref s4, .ref s5, .ref s6, .int suc])), (s1, .inl (E.2.1 0, 1024, .inl swd)), (s2, .inl (E.2.1 1, 100, .inr (.inl slb))), (s3, .inl (E.2.1 0, 100, .inl sla)), (s4, .inl (E.2.1 1, 1024, .inr (.inl sul))), (s5, .inl (E.2.1 0, 1024, .inl sua)), (s6, .inl (E.2.1 0, 1024, .inl suL)), (l0, .inr (3, [.ref l9, .int lat, .int len, .long llb, .int lor, .int laa, .int lbb, .int lnu, .long lwa])), (l1, .inl (E.2.1 0, 3000, .inl ltx))]) rfl (by decide) ?_
  clear hP hD hS
  intro H locs hP hD hS
  clear hr
  refine lv_if_eq (tgt := 20) J.1 J.2.1 d_GT_load_4 (by decide) (fun c_2 => ?_) (fun c_2 => ?_)
  · replace h := g_t c_2 h
    cases h
  · replace h := g_f c_2 h
    refine lv_iload_n J.1 J.2.1 d_GT_load_7 rfl (lv_at hl 2 rfl) ?_
    refine lv_bipush (v := 64) J.1 J.2.1 d_GT_load_8 (by decide) ?_
    refine lv_icmp_lt (tgt := 20) J.1 J.2.1 d_GT_load_10 (by decide) (fun c_3 => ?_) (fun c_3 => ?_)
    · replace h := g_t c_3 h
      cases h
    · replace h := g_f c_3 h
      refine lv_iload_n J.1 J.2.1 d_GT_load_13 rfl (lv_at hl 2 rfl) ?_
      refine lv_sipush (v := 1024) J.1 J.2.1 d_GT_load_14 (by decide) ?_
      refine lv_icmp_le (tgt := 23) J.1 J.2.1 d_GT_load_17 (by decide) (fun c_4 => ?_) (fun c_4 => ?_)
      · replace h := g_t c_4 h
        refine lv_iload_n J.1 J.2.1 d_GT_load_23 rfl (lv_at hl 3 rfl) ?_
        refine lv_if_lt (tgt := 46) J.1 J.2.1 d_GT_load_24 (by decide) (fun c_5 => ?_) (fun c_5 => ?_)
        · replace h := g_t c_5 h
          cases h
        · replace h := g_f c_5 h
          refine lv_iload_n J.1 J.2.1 d_GT_load_27 rfl (lv_at hl 3 rfl) ?_
          refine lv_iconst (v := 2) J.1 J.2.1 d_GT_load_28 (by decide) ?_
          refine lv_icmp_gt (tgt := 46) J.1 J.2.1 d_GT_load_29 (by decide) (fun c_6 => ?_) (fun c_6 => ?_)
          · replace h := g_t c_6 h
            cases h
          · replace h := g_f c_6 h
            refine lv_iload J.1 J.2.1 d_GT_load_32 (lv_at hl 4 rfl) ?_
            refine lv_if_lt (tgt := 46) J.1 J.2.1 d_GT_load_34 (by decide) (fun c_7 => ?_) (fun c_7 => ?_)
            · replace h := g_t c_7 h
              cases h
            · replace h := g_f c_7 h
              refine lv_iload J.1 J.2.1 d_GT_load_37 (lv_at hl 4 rfl) ?_
              refine lv_aload_n J.1 J.2.1 d_GT_load_39 rfl (lv_at hl 0 rfl) ?_
              refine jg J hJ hP 0 rfl rfl i_GT 1 (by decide) gf_GT_13 rfl d_GT_load_40 ?_
              refine lv_icmp_le (tgt := 49) J.1 J.2.1 d_GT_load_43 (by decide) (fun c_8 => ?_) (fun c_8 => ?_)
              · replace h := g_t c_8 h
                refine lv_aload_n J.1 J.2.1 d_GT_load_49 rfl (lv_at hl 0 rfl) ?_
                refine jg J hJ hP 0 rfl rfl i_GT 2 (by decide) gf_GT_20 rfl d_GT_load_50 ?_
                refine lv_aload_n J.1 J.2.1 d_GT_load_53 rfl (lv_at hl 0 rfl) ?_
                refine jg J hJ hP 0 rfl rfl i_GT 0 (by decide) gf_GT_9 rfl d_GT_load_54 ?_
                refine lv_iload J.1 J.2.1 d_GT_load_57 (lv_at hl 4 rfl) ?_
                refine lv_iload_n J.1 J.2.1 d_GT_load_59 rfl (lv_at hl 2 rfl) ?_
                replace h := g_bd h
                obtain ⟨⟨shr_9, sft_9, sfl_9, slc_9, suc_9, swd_9, slb_9, sla_9, sul_9, sua_9, suL_9, l9_9, lat_9, len_9, llb_9, lor_9, laa_9, lbb_9, lnu_9, lwa_9⟩, q_9, h⟩ := h
                try dsimp only at h
                have hq := ct_AS_assemble l E l0 l1 s0 s1 s2 s3 s4 s5 s6 w8 H.size wN shr sft sfl slc suc swd slb sla sul sua suL l9 lat len llb lor laa lbb lnu lwa ltx p4 p2 shr_9 sft_9 sfl_9 slc_9 suc_9 swd_9 slb_9 sla_9 sul_9 sua_9 suL_9 l9_9 lat_9 len_9 llb_9 lor_9 laa_9 lbb_9 lnu_9 lwa_9 hzC hzN htN q_9
                have hr := jrunV (p := p) (e := e) (below := below) (R := ({ frames := 9, cells := 8, slots := 2603, locals := 203 })) (cells := 0) (slots := 0) (As := [.ref l1, .int p4, .int p2]) (rest := []) J hJ hA hZ hP hD hS hq [2, 3, 4, 5, 6, 7, 8, 9, 10] rfl (by decide) gl_GT_44 gi_AS_assemble gsel_AS_assemble gini_AS gc_AS_assemble hd_AS_assemble ⟨rfl, rfl, Nat.le_of_ble_eq_true rfl, Nat.le_of_ble_eq_true rfl⟩ rfl rfl hl.1 rfl rfl (Nat.le_of_ble_eq_true rfl) d_GT_load_60 ⟨Nat.zero_le _, Nat.zero_le _⟩
                clear hq
                refine jk_v hr hA hP hD hS [2, 3, 4, 5, 6, 7, 8, 9, 10] [0, 1] (WR := [(t0, .inr (5, [.ref l1, .int htl, .ref s0, .ref h2, .int hlf, .int hll])), (h2, .inl (E.2.1 4, 3, .inr (.inr (.inr (.inr hgs)))))]) rfl rfl (by decide) (by decide) [0, 1, 2, 3, 4, 5, 6, 7, 8, 9, 10] (WF := [(t0, .inr (5, [.ref l1, .int htl, .ref s0, .ref h2, .int hlf, .int hll])), (h2, .inl (E.2.1 4, 3, .inr (.inr (.inr (.inr hgs))))), (s0, .inr (4, [.ref s1, .int shr_9, .int sft_9, .int sfl_9, .ref l0, .ref s2, .ref s3, .int slc_9, .ref s4, .ref s5, .ref s6, .int suc_9])), (s1, .inl (E.2.1 0, 1024, .inl swd_9)), (s2, .inl (E.2.1 1, 100, .inr (.inl slb_9))), (s3, .inl (E.2.1 0, 100, .inl sla_9)), (s4, .inl (E.2.1 1, 1024, .inr (.inl sul_9))), (s5, .inl (E.2.1 0, 1024, .inl sua_9)), (s6, .inl (E.2.1 0, 1024, .inl suL_9)), (l0, .inr (3, [.ref l9_9, .int lat_9, .int len_9, .long llb_9, .int lor_9, .int laa_9, .int lbb_9, .int lnu_9, .long lwa_9])), (l1, .inl (E.2.1 0, 3000, .inl ltx))]) rfl (by decide) ?_
                clear hP hD hS
                intro H locs hP hD hS
                clear hr
                refine lv_aload_n J.1 J.2.1 d_GT_load_63 rfl (lv_at hl 0 rfl) ?_
                refine lv_iconst (v := 0) J.1 J.2.1 d_GT_load_64 (by decide) ?_
                refine jp J hJ hP hD hS 0 rfl rfl i_GT t_GT t_GT_ok n_GT 1 (by decide) gf_GT_13 rfl rfl rfl (Nat.le_of_ble_eq_true rfl) d_GT_load_65 (WS' := [(t0, .inr (5, [.ref l1, .int 0, .ref s0, .ref h2, .int hlf, .int hll])), (h2, .inl (E.2.1 4, 3, .inr (.inr (.inr (.inr hgs))))), (s0, .inr (4, [.ref s1, .int shr_9, .int sft_9, .int sfl_9, .ref l0, .ref s2, .ref s3, .int slc_9, .ref s4, .ref s5, .ref s6, .int suc_9])), (s1, .inl (E.2.1 0, 1024, .inl swd_9)), (s2, .inl (E.2.1 1, 100, .inr (.inl slb_9))), (s3, .inl (E.2.1 0, 100, .inl sla_9)), (s4, .inl (E.2.1 1, 1024, .inr (.inl sul_9))), (s5, .inl (E.2.1 0, 1024, .inl sua_9)), (s6, .inl (E.2.1 0, 1024, .inl suL_9)), (l0, .inr (3, [.ref l9_9, .int lat_9, .int len_9, .long llb_9, .int lor_9, .int laa_9, .int lbb_9, .int lnu_9, .long lwa_9])), (l1, .inl (E.2.1 0, 3000, .inl ltx))]) rfl ?_
                clear hP hD hS
                intro H locs hP hD hS
                refine lv_aload_n J.1 J.2.1 d_GT_load_68 rfl (lv_at hl 0 rfl) ?_
                refine lv_aload_n J.1 J.2.1 d_GT_load_69 rfl (lv_at hl 0 rfl) ?_
                refine jg J hJ hP 0 rfl rfl i_GT 2 (by decide) gf_GT_20 rfl d_GT_load_70 ?_
                refine jgN J hJ hP 2 rfl rfl i_AS 2 (by decide) gn_GT_48 rfl d_GT_load_73 ?_
                refine jp J hJ hP hD hS 0 rfl rfl i_GT t_GT t_GT_ok n_GT 4 (by decide) gf_GT_30 rfl rfl rfl (Nat.le_of_ble_eq_true rfl) d_GT_load_76 (WS' := [(t0, .inr (5, [.ref l1, .int 0, .ref s0, .ref h2, .int sft_9, .int hll])), (h2, .inl (E.2.1 4, 3, .inr (.inr (.inr (.inr hgs))))), (s0, .inr (4, [.ref s1, .int shr_9, .int sft_9, .int sfl_9, .ref l0, .ref s2, .ref s3, .int slc_9, .ref s4, .ref s5, .ref s6, .int suc_9])), (s1, .inl (E.2.1 0, 1024, .inl swd_9)), (s2, .inl (E.2.1 1, 100, .inr (.inl slb_9))), (s3, .inl (E.2.1 0, 100, .inl sla_9)), (s4, .inl (E.2.1 1, 1024, .inr (.inl sul_9))), (s5, .inl (E.2.1 0, 1024, .inl sua_9)), (s6, .inl (E.2.1 0, 1024, .inl suL_9)), (l0, .inr (3, [.ref l9_9, .int lat_9, .int len_9, .long llb_9, .int lor_9, .int laa_9, .int lbb_9, .int lnu_9, .long lwa_9])), (l1, .inl (E.2.1 0, 3000, .inl ltx))]) rfl ?_
                clear hP hD hS
                intro H locs hP hD hS
                refine lv_aload_n J.1 J.2.1 d_GT_load_79 rfl (lv_at hl 0 rfl) ?_
                refine lv_aload_n J.1 J.2.1 d_GT_load_80 rfl (lv_at hl 0 rfl) ?_
                refine jg J hJ hP 0 rfl rfl i_GT 2 (by decide) gf_GT_20 rfl d_GT_load_81 ?_
                refine jgN J hJ hP 2 rfl rfl i_AS 3 (by decide) gn_GT_51 rfl d_GT_load_84 ?_
                refine jp J hJ hP hD hS 0 rfl rfl i_GT t_GT t_GT_ok n_GT 5 (by decide) gf_GT_33 rfl rfl rfl (Nat.le_of_ble_eq_true rfl) d_GT_load_87 (WS' := [(t0, .inr (5, [.ref l1, .int 0, .ref s0, .ref h2, .int sft_9, .int sfl_9])), (h2, .inl (E.2.1 4, 3, .inr (.inr (.inr (.inr hgs))))), (s0, .inr (4, [.ref s1, .int shr_9, .int sft_9, .int sfl_9, .ref l0, .ref s2, .ref s3, .int slc_9, .ref s4, .ref s5, .ref s6, .int suc_9])), (s1, .inl (E.2.1 0, 1024, .inl swd_9)), (s2, .inl (E.2.1 1, 100, .inr (.inl slb_9))), (s3, .inl (E.2.1 0, 100, .inl sla_9)), (s4, .inl (E.2.1 1, 1024, .inr (.inl sul_9))), (s5, .inl (E.2.1 0, 1024, .inl sua_9)), (s6, .inl (E.2.1 0, 1024, .inl suL_9)), (l0, .inr (3, [.ref l9_9, .int lat_9, .int len_9, .long llb_9, .int lor_9, .int laa_9, .int lbb_9, .int lnu_9, .long lwa_9])), (l1, .inl (E.2.1 0, 3000, .inl ltx))]) rfl ?_
                clear hP hD hS
                intro H locs hP hD hS
                refine lv_aload_n J.1 J.2.1 d_GT_load_90 rfl (lv_at hl 0 rfl) ?_
                refine jg J hJ hP 0 rfl rfl i_GT 4 (by decide) gf_GT_30 rfl d_GT_load_91 ?_
                refine lv_if_eq (tgt := 99) J.1 J.2.1 d_GT_load_94 (by decide) (fun c_10 => ?_) (fun c_10 => ?_)
                · replace h := g_t c_10 h
                  refine lv_aload_n J.1 J.2.1 d_GT_load_99 rfl (lv_at hl 0 rfl) ?_
                  refine jg J hJ hP 0 rfl rfl i_GT 3 (by decide) gf_GT_26 rfl d_GT_load_100 ?_
                  refine lv_iload_n J.1 J.2.1 d_GT_load_103 rfl (lv_at hl 1 rfl) ?_
                  replace h := g_ck h
                  obtain ⟨k_11, h⟩ := h
                  refine va_aldq J.1 J.2.1 hJ.1 hP 1 4 rfl rfl k_11 d_GT_load_104 ?_
                  rw [hgv]
                  show W _ _ _ _ _ _ _ _ _ _ _ _ _ _ _ (F0 _ _ _ (.null :: _))
                  refine lv_ifnonnullN J.1 J.2.1 d_GT_load_105 ?_
                  refine jnew J hJ hA hP hD hS (ci := 2) rfl i_GU t_GU t_GU_ok gcl_GT_24 ginst_GU gini_GU df_GU (Nat.le_of_ble_eq_true rfl) (Nat.le_of_ble_eq_true rfl) d_GT_load_108 ?_
                  clear hP hD hS
                  intro q1 H hP hD hS
                  have hP : va_P E.1 classes [(t0, .inr (5, [.ref l1, .int 0, .ref s0, .ref h2, .int sft_9, .int sfl_9])), (h2, .inl (E.2.1 4, 3, .inr (.inr (.inr (.inr hgs))))), (s0, .inr (4, [.ref s1, .int shr_9, .int sft_9, .int sfl_9, .ref l0, .ref s2, .ref s3, .int slc_9, .ref s4, .ref s5, .ref s6, .int suc_9])), (s1, .inl (E.2.1 0, 1024, .inl swd_9)), (s2, .inl (E.2.1 1, 100, .inr (.inl slb_9))), (s3, .inl (E.2.1 0, 100, .inl sla_9)), (s4, .inl (E.2.1 1, 1024, .inr (.inl sul_9))), (s5, .inl (E.2.1 0, 1024, .inl sua_9)), (s6, .inl (E.2.1 0, 1024, .inl suL_9)), (l0, .inr (3, [.ref l9_9, .int lat_9, .int len_9, .long llb_9, .int lor_9, .int laa_9, .int lbb_9, .int lnu_9, .long lwa_9])), (l1, .inl (E.2.1 0, 3000, .inl ltx)), (q1, .inr (2, [.null, .int 0, .int 0, .int 0, .int 0]))] H := hP
                  have hD : va_D A [(t0, .inr (5, [.ref l1, .int 0, .ref s0, .ref h2, .int sft_9, .int sfl_9])), (h2, .inl (E.2.1 4, 3, .inr (.inr (.inr (.inr hgs))))), (s0, .inr (4, [.ref s1, .int shr_9, .int sft_9, .int sfl_9, .ref l0, .ref s2, .ref s3, .int slc_9, .ref s4, .ref s5, .ref s6, .int suc_9])), (s1, .inl (E.2.1 0, 1024, .inl swd_9)), (s2, .inl (E.2.1 1, 100, .inr (.inl slb_9))), (s3, .inl (E.2.1 0, 100, .inl sla_9)), (s4, .inl (E.2.1 1, 1024, .inr (.inl sul_9))), (s5, .inl (E.2.1 0, 1024, .inl sua_9)), (s6, .inl (E.2.1 0, 1024, .inl suL_9)), (l0, .inr (3, [.ref l9_9, .int lat_9, .int len_9, .long llb_9, .int lor_9, .int laa_9, .int lbb_9, .int lnu_9, .long lwa_9])), (l1, .inl (E.2.1 0, 3000, .inl ltx)), (q1, .inr (2, [.null, .int 0, .int 0, .int 0, .int 0]))] := hD
                  refine lv_dup J.1 J.2.1 d_GT_load_111 rfl ?_
                  have hq := ct_GU_init l E q1 H.size
                  have hr := jrunI (p := p) (e := e) (below := below) (R := ({ frames := 9, cells := 8, slots := 2603, locals := 203 })) (cells := 1) (slots := 5) (As := []) (rest := [.ref q1]) J hJ hA hZ hP hD hS hq [11] rfl (by decide) gl_GT_54 gi_GU_init gini_GU gc_GU_init rfl hd_GU_init ⟨rfl, rfl, Nat.le_of_ble_eq_true rfl, Nat.le_of_ble_eq_true rfl⟩ hl.1 rfl rfl (Nat.le_of_ble_eq_true rfl) d_GT_load_112 ⟨Nat.le_of_ble_eq_true rfl, Nat.le_of_ble_eq_true rfl⟩
                  clear hq
                  refine jk_n (S := Nat × Nat × Nat × Nat × Nat × Nat × Nat) (WF := fun u => match u with | (q2, q3, q4, q5, q6, q7, q8) => [(t0, .inr (5, [.ref l1, .int 0, .ref s0, .ref h2, .int sft_9, .int sfl_9])), (h2, .inl (E.2.1 4, 3, .inr (.inr (.inr (.inr hgs))))), (s0, .inr (4, [.ref s1, .int shr_9, .int sft_9, .int sfl_9, .ref l0, .ref s2, .ref s3, .int slc_9, .ref s4, .ref s5, .ref s6, .int suc_9])), (s1, .inl (E.2.1 0, 1024, .inl swd_9)), (s2, .inl (E.2.1 1, 100, .inr (.inl slb_9))), (s3, .inl (E.2.1 0, 100, .inl sla_9)), (s4, .inl (E.2.1 1, 1024, .inr (.inl sul_9))), (s5, .inl (E.2.1 0, 1024, .inl sua_9)), (s6, .inl (E.2.1 0, 1024, .inl suL_9)), (l0, .inr (3, [.ref l9_9, .int lat_9, .int len_9, .long llb_9, .int lor_9, .int laa_9, .int lbb_9, .int lnu_9, .long lwa_9])), (l1, .inl (E.2.1 0, 3000, .inl ltx)), (q1, .inr (2, [.ref q2, .int 0, .int 0, .int 0, .int 0])), (q2, .inr (0, [.ref q3, .ref q4, .ref q5, .ref q6, .int 1844, .int 0, .int 0, .int 0, .int 0, .int 0, .int 0, .int 0, .int 0])), (q3, .inl (E.2.1 0, 1844, .inl (fun _ => 0))), (q4, .inl (E.2.1 0, 8, .inl (fun _ => 0))), (q5, .inl (E.2.1 0, 128, .inl (fun _ => 0))), (q6, .inr (1, [.ref q7, .ref q8, .int 0, .int 0, .int 0])), (q7, .inl (E.2.1 0, 100, .inl (fun _ => 0))), (q8, .inl (E.2.1 0, 500, .inl (fun _ => 0)))]) hr hA hP hD hS [11] [0, 1, 2, 3, 4, 5, 6, 7, 8, 9, 10] (WR := [(t0, .inr (5, [.ref l1, .int 0, .ref s0, .ref h2, .int sft_9, .int sfl_9])), (h2, .inl (E.2.1 4, 3, .inr (.inr (.inr (.inr hgs))))), (s0, .inr (4, [.ref s1, .int shr_9, .int sft_9, .int sfl_9, .ref l0, .ref s2, .ref s3, .int slc_9, .ref s4, .ref s5, .ref s6, .int suc_9])), (s1, .inl (E.2.1 0, 1024, .inl swd_9)), (s2, .inl (E.2.1 1, 100, .inr (.inl slb_9))), (s3, .inl (E.2.1 0, 100, .inl sla_9)), (s4, .inl (E.2.1 1, 1024, .inr (.inl sul_9))), (s5, .inl (E.2.1 0, 1024, .inl sua_9)), (s6, .inl (E.2.1 0, 1024, .inl suL_9)), (l0, .inr (3, [.ref l9_9, .int lat_9, .int len_9, .long llb_9, .int lor_9, .int laa_9, .int lbb_9, .int lnu_9, .long lwa_9])), (l1, .inl (E.2.1 0, 3000, .inl ltx))]) rfl rfl (by decide) (by decide) [0, 1, 2, 3, 4, 5, 6, 7, 8, 9, 10, 11, 12, 13, 14, 15, 16, 17, 18] (by intro u; obtain ⟨q2, q3, q4, q5, q6, q7, q8⟩ := u; rfl) (by decide) ?_
                  clear hP hD hS hr
                  intro u H locs hP hD hS
                  obtain ⟨q2, q3, q4, q5, q6, q7, q8⟩ := u
                  have hP : va_P E.1 classes [(t0, .inr (5, [.ref l1, .int 0, .ref s0, .ref h2, .int sft_9, .int sfl_9])), (h2, .inl (E.2.1 4, 3, .inr (.inr (.inr (.inr hgs))))), (s0, .inr (4, [.ref s1, .int shr_9, .int sft_9, .int sfl_9, .ref l0, .ref s2, .ref s3, .int slc_9, .ref s4, .ref s5, .ref s6, .int suc_9])), (s1, .inl (E.2.1 0, 1024, .inl swd_9)), (s2, .inl (E.2.1 1, 100, .inr (.inl slb_9))), (s3, .inl (E.2.1 0, 100, .inl sla_9)), (s4, .inl (E.2.1 1, 1024, .inr (.inl sul_9))), (s5, .inl (E.2.1 0, 1024, .inl sua_9)), (s6, .inl (E.2.1 0, 1024, .inl suL_9)), (l0, .inr (3, [.ref l9_9, .int lat_9, .int len_9, .long llb_9, .int lor_9, .int laa_9, .int lbb_9, .int lnu_9, .long lwa_9])), (l1, .inl (E.2.1 0, 3000, .inl ltx)), (q1, .inr (2, [.ref q2, .int 0, .int 0, .int 0, .int 0])), (q2, .inr (0, [.ref q3, .ref q4, .ref q5, .ref q6, .int 1844, .int 0, .int 0, .int 0, .int 0, .int 0, .int 0, .int 0, .int 0])), (q3, .inl (E.2.1 0, 1844, .inl (fun _ => 0))), (q4, .inl (E.2.1 0, 8, .inl (fun _ => 0))), (q5, .inl (E.2.1 0, 128, .inl (fun _ => 0))), (q6, .inr (1, [.ref q7, .ref q8, .int 0, .int 0, .int 0])), (q7, .inl (E.2.1 0, 100, .inl (fun _ => 0))), (q8, .inl (E.2.1 0, 500, .inl (fun _ => 0)))] H := hP
                  have hD : va_D A [(t0, .inr (5, [.ref l1, .int 0, .ref s0, .ref h2, .int sft_9, .int sfl_9])), (h2, .inl (E.2.1 4, 3, .inr (.inr (.inr (.inr hgs))))), (s0, .inr (4, [.ref s1, .int shr_9, .int sft_9, .int sfl_9, .ref l0, .ref s2, .ref s3, .int slc_9, .ref s4, .ref s5, .ref s6, .int suc_9])), (s1, .inl (E.2.1 0, 1024, .inl swd_9)), (s2, .inl (E.2.1 1, 100, .inr (.inl slb_9))), (s3, .inl (E.2.1 0, 100, .inl sla_9)), (s4, .inl (E.2.1 1, 1024, .inr (.inl sul_9))), (s5, .inl (E.2.1 0, 1024, .inl sua_9)), (s6, .inl (E.2.1 0, 1024, .inl suL_9)), (l0, .inr (3, [.ref l9_9, .int lat_9, .int len_9, .long llb_9, .int lor_9, .int laa_9, .int lbb_9, .int lnu_9, .long lwa_9])), (l1, .inl (E.2.1 0, 3000, .inl ltx)), (q1, .inr (2, [.ref q2, .int 0, .int 0, .int 0, .int 0])), (q2, .inr (0, [.ref q3, .ref q4, .ref q5, .ref q6, .int 1844, .int 0, .int 0, .int 0, .int 0, .int 0, .int 0, .int 0, .int 0])), (q3, .inl (E.2.1 0, 1844, .inl (fun _ => 0))), (q4, .inl (E.2.1 0, 8, .inl (fun _ => 0))), (q5, .inl (E.2.1 0, 128, .inl (fun _ => 0))), (q6, .inr (1, [.ref q7, .ref q8, .int 0, .int 0, .int 0])), (q7, .inl (E.2.1 0, 100, .inl (fun _ => 0))), (q8, .inl (E.2.1 0, 500, .inl (fun _ => 0)))] := hD
                  refine lv_goto (tgt := 124) J.1 J.2.1 d_GT_load_115 (by decide) ?_
                  replace h := g_bd h
                  obtain ⟨⟨r_12, gsz_12, gdp_12, gst_12, gsp_12, vsz_12, vmd_12, vpc_12, vba_12, vbo_12, vre_12, vti_12, vro_12, vha_12, vmem_12, vreg_12, vblk_12, kold_12, kwai_12, ksnt_12, ksen_12⟩, q_12, h⟩ := h
                  try dsimp only at h
                  refine ld_124 J hJ hA hZ hzW htW q_12 hP hD hS (lv_sub hl [0, 1, 2, 3] rfl) (Nat.le_of_ble_eq_true rfl) (Nat.le_of_ble_eq_true rfl) ⟨Nat.le_of_ble_eq_true rfl, Nat.le_of_ble_eq_true rfl⟩ ?_
                  clear hP hD hS
                  intro H locs hP hD hS ls
                  have h := Option.some.inj h
                  have e_0 := (Prod.mk.inj h).1
                  have h := (Prod.mk.inj h).2
                  have e_1 := (Prod.mk.inj h).1
                  have h := (Prod.mk.inj h).2
                  have e_2 := (Prod.mk.inj h).1
                  have h := (Prod.mk.inj h).2
                  have e_3 := (Prod.mk.inj h).1
                  have h := (Prod.mk.inj h).2
                  have e_4 := (Prod.mk.inj h).1
                  have h := (Prod.mk.inj h).2
                  have e_5 := (Prod.mk.inj h).1
                  have h := (Prod.mk.inj h).2
                  have e_6 := (Prod.mk.inj h).1
                  have h := (Prod.mk.inj h).2
                  have e_7 := (Prod.mk.inj h).1
                  have h := (Prod.mk.inj h).2
                  have e_8 := (Prod.mk.inj h).1
                  have h := (Prod.mk.inj h).2
                  have e_9 := (Prod.mk.inj h).1
                  have h := (Prod.mk.inj h).2
                  have e_10 := (Prod.mk.inj h).1
                  have h := (Prod.mk.inj h).2
                  have e_11 := (Prod.mk.inj h).1
                  have h := (Prod.mk.inj h).2
                  have e_12 := (Prod.mk.inj h).1
                  have h := (Prod.mk.inj h).2
                  have e_13 := (Prod.mk.inj h).1
                  have h := (Prod.mk.inj h).2
                  have e_14 := (Prod.mk.inj h).1
                  have h := (Prod.mk.inj h).2
                  have e_15 := (Prod.mk.inj h).1
                  have h := (Prod.mk.inj h).2
                  have e_16 := (Prod.mk.inj h).1
                  have h := (Prod.mk.inj h).2
                  have e_17 := (Prod.mk.inj h).1
                  have h := (Prod.mk.inj h).2
                  have e_18 := (Prod.mk.inj h).1
                  have h := (Prod.mk.inj h).2
                  have e_19 := (Prod.mk.inj h).1
                  have h := (Prod.mk.inj h).2
                  have e_20 := (Prod.mk.inj h).1
                  have h := (Prod.mk.inj h).2
                  have e_21 := (Prod.mk.inj h).1
                  have h := (Prod.mk.inj h).2
                  have e_22 := (Prod.mk.inj h).1
                  have h := (Prod.mk.inj h).2
                  have e_23 := (Prod.mk.inj h).1
                  have h := (Prod.mk.inj h).2
                  have e_24 := (Prod.mk.inj h).1
                  have h := (Prod.mk.inj h).2
                  have e_25 := (Prod.mk.inj h).1
                  have h := (Prod.mk.inj h).2
                  have e_26 := (Prod.mk.inj h).1
                  have h := (Prod.mk.inj h).2
                  have e_27 := (Prod.mk.inj h).1
                  have h := (Prod.mk.inj h).2
                  have e_28 := (Prod.mk.inj h).1
                  have h := (Prod.mk.inj h).2
                  have e_29 := (Prod.mk.inj h).1
                  have h := (Prod.mk.inj h).2
                  have e_30 := (Prod.mk.inj h).1
                  have h := (Prod.mk.inj h).2
                  have e_31 := (Prod.mk.inj h).1
                  have h := (Prod.mk.inj h).2
                  have e_32 := (Prod.mk.inj h).1
                  have h := (Prod.mk.inj h).2
                  have e_33 := (Prod.mk.inj h).1
                  have h := (Prod.mk.inj h).2
                  have e_34 := (Prod.mk.inj h).1
                  have h := (Prod.mk.inj h).2
                  have e_35 := (Prod.mk.inj h).1
                  have h := (Prod.mk.inj h).2
                  have e_36 := (Prod.mk.inj h).1
                  have h := (Prod.mk.inj h).2
                  have e_37 := (Prod.mk.inj h).1
                  have h := (Prod.mk.inj h).2
                  have e_38 := (Prod.mk.inj h).1
                  have h := (Prod.mk.inj h).2
                  have e_39 := (Prod.mk.inj h).1
                  have h := (Prod.mk.inj h).2
                  have e_40 := (Prod.mk.inj h).1
                  have h := (Prod.mk.inj h).2
                  have e_41 := (Prod.mk.inj h).1
                  have h := (Prod.mk.inj h).2
                  have e_42 := (Prod.mk.inj h).1
                  have h := (Prod.mk.inj h).2
                  rw [← e_0, ← e_1, ← e_2, ← e_3, ← e_4, ← e_5, ← e_6, ← e_7, ← e_8, ← e_9, ← e_10, ← e_11, ← e_12, ← e_13, ← e_14, ← e_15, ← e_16, ← e_17, ← e_18, ← e_19, ← e_20, ← e_21, ← e_22, ← e_23, ← e_24, ← e_25, ← e_26, ← e_27, ← e_28, ← e_29, ← e_30, ← e_31, ← e_32, ← e_33, ← e_34, ← e_35, ← e_36, ← e_37, ← e_38, ← e_39, ← e_40, ← e_41, ← e_42, ← h]
                  exact jr_m (q1, q2, q3, q4, q5, q6, q7, q8) J hS hP hD rfl d_GT_load_162
                · replace h := g_f c_10 h
                  cases h
              · replace h := g_f c_8 h
                cases h
      · replace h := g_f c_4 h
        cases h
