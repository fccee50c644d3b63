theorem hd_MA_clear : y_MA_clear.cls ≠ "java/lang/invoke/MethodHandle" ∧ y_MA_clear.cls ≠ "java/lang/invoke/VarHandle" ∧ (parseMethodDescriptor y_MA_clear.desc).map (fun d => d.parameters.length) = some 1 := by decide +kernel
def f_MA_clear (vmem : Nat → Int32) (vreg : Nat → Int32) (vblk : Nat → Int32) (p1 : Int32) : Option (Int32 × Int32 × Int32 × Int32 × Int32 × Int32 × Int32 × Int32 × Int32 × (Nat → Int32) × (Nat → Int32) × (Nat → Int32) × Int32 × Int32 × Int32) := ((f_JA_fill 1844 vmem 0).bind fun wf_1 => ((f_JA_fill 8 vreg 0).bind fun wf_2 => ((f_JA_fill 128 vblk 0).bind fun wf_3 => ((f_CO_clear).bind fun (kold_4, kwai_4, ksnt_4) => (some (p1, 0, 16, 0, p1, p1, 0, 0, 0, wf_1, wf_2, wf_3, kold_4, kwai_4, ksnt_4))))))
set_option maxHeartbeats 4000000 in
set_option maxRecDepth 100000 in
theorem ct_MA_clear (l : Launch) (E : jz_E) (a0 a1 a2 a3 k0 k1 k2 : Nat) (sz : Nat) (vsz : Int32) (vmd : Int32) (vpc : Int32) (vba : Int32) (vbo : Int32) (vre : Int32) (vti : Int32) (vro : Int32) (vha : Int32) (vmem : Nat → Int32) (vreg : Nat → Int32) (vblk : Nat → Int32) (kold : Int32) (kwai : Int32) (ksnt : Int32) (p1 : Int32) (o_vsz : Int32) (o_vmd : Int32) (o_vpc : Int32) (o_vba : Int32) (o_vbo : Int32) (o_vre : Int32) (o_vti : Int32) (o_vro : Int32) (o_vha : Int32) (o_vmem : Nat → Int32) (o_vreg : Nat → Int32) (o_vblk : Nat → Int32) (o_kold : Int32) (o_kwai : Int32) (o_ksnt : Int32)  (h : f_MA_clear vmem vreg vblk p1 = some (o_vsz, o_vmd, o_vpc, o_vba, o_vbo, o_vre, o_vti, o_vro, o_vha, o_vmem, o_vreg, o_vblk, o_kold, o_kwai, o_ksnt)) : CTv l E y_MA_clear c_MA_clear 2 none ({ frames := 1, cells := 0, slots := 0, locals := 23 }) [.ref a0, .int p1] [(a0, .inr (0, [.ref a1, .ref a2, .ref a3, .ref k0, .int vsz, .int vmd, .int vpc, .int vba, .int vbo, .int vre, .int vti, .int vro, .int vha])), (a1, .inl (E.2.1 0, 1844, .inl vmem)), (a2, .inl (E.2.1 0, 8, .inl vreg)), (a3, .inl (E.2.1 0, 128, .inl vblk)), (k0, .inr (1, [.ref k1, .ref k2, .int kold, .int kwai, .int ksnt]))] sz [(a0, .inr (0, [.ref a1, .ref a2, .ref a3, .ref k0, .int o_vsz, .int o_vmd, .int o_vpc, .int o_vba, .int o_vbo, .int o_vre, .int o_vti, .int o_vro, .int o_vha])), (a1, .inl (E.2.1 0, 1844, .inl o_vmem)), (a2, .inl (E.2.1 0, 8, .inl o_vreg)), (a3, .inl (E.2.1 0, 128, .inl o_vblk)), (k0, .inr (1, [.ref k1, .ref k2, .int o_kold, .int o_kwai, .int o_ksnt]))] := by
  refine jw (by decide +kernel) (Nat.le_of_ble_eq_true rfl) ?_
  intro p e s m below meth c A ls J hJ hAe hsz hA hZ hP hD hl
  rw [← hAe]
  have hS : va_S A s.heap s.heap [] := va_S.rf
  have hl : lv_has ls 2 [(0, .ref a0), (1, .int p1)] := hl
  unfold f_MA_clear at h
  refine lv_aload_n J.1 J.2.1 d_MA_clear_0 rfl (lv_at hl 0 rfl) ?_
  refine jg J hJ hP 0 rfl rfl i_MA 0 (by decide) gf_MA_9 rfl d_MA_clear_1 ?_
  refine lv_iconst (v := 0) J.1 J.2.1 d_MA_clear_4 (by decide) ?_
  replace h := g_bd h
  obtain ⟨wf_1, q_1, h⟩ := h
  have hq := ct_JA_fill l E a1 s.heap.size 1844 vmem 0 wf_1 q_1
  have hr := jrunS (p := p) (e := e) (below := below) (R := ({ frames := 1, cells := 0, slots := 0, locals := 23 })) (cells := 0) (slots := 0) (As := [.ref a1, .int 0]) (rest := []) J hJ hA hZ hP hD hS hq [1] rfl (by decide) gl_MA_32 gs_JA_fill gini_JA gc_JA_fill hd_JA_fill ⟨rfl, rfl, Nat.le_of_ble_eq_true rfl, Nat.le_of_ble_eq_true rfl⟩ hl.1 rfl rfl (Nat.le_of_ble_eq_true rfl) d_MA_clear_5 ⟨Nat.zero_le _, Nat.zero_le _⟩
  clear hq
  refine jk_v hr hA hP hD hS [1] [0, 2, 3, 4] (WR := [(a0, .inr (0, [.ref a1, .ref a2, .ref a3, .ref k0, .int vsz, .int vmd, .int vpc, .int vba, .int vbo, .int vre, .int vti, .int vro, .int vha])), (a2, .inl (E.2.1 0, 8, .inl vreg)), (a3, .inl (E.2.1 0, 128, .inl vblk)), (k0, .inr (1, [.ref k1, .ref k2, .int kold, .int kwai, .int ksnt]))]) rfl rfl (by decide) (by decide) [0, 4, 1, 2, 3] (WF := [(a0, .inr (0, [.ref a1, .ref a2, .ref a3, .ref k0, .int vsz, .int vmd, .int vpc, .int vba, .int vbo, .int vre, .int vti, .int vro, .int vha])), (a1, .inl (E.2.1 0, 1844, .inl wf_1)), (a2, .inl (E.2.1 0, 8, .inl vreg)), (a3, .inl (E.2.1 0, 128, .inl vblk)), (k0, .inr (1, [.ref k1, .ref k2, .int kold, .int kwai, .int ksnt]))]) rfl (by decide) ?_
  clear hP hD hS
  intro H locs hP hD hS
  clear hr
  refine lv_aload_n J.1 J.2.1 d_MA_clear_8 rfl (lv_at hl 0 rfl) ?_
  refine jg J hJ hP 0 rfl rfl i_MA 1 (by decide) gf_MA_15 rfl d_MA_clear_9 ?_
  refine lv_iconst (v := 0) J.1 J.2.1 d_MA_clear_12 (by decide) ?_
  replace h := g_bd h
  obtain ⟨wf_2, q_2, h⟩ := h
  have hq := ct_JA_fill l E a2 H.size 8 vreg 0 wf_2 q_2
  have hr := jrunS (p := p) (e := e) (below := below) (R := ({ frames := 1, cells := 0, slots := 0, locals := 23 })) (cells := 0) (slots := 0) (As := [.ref a2, .int 0]) (rest := []) J hJ hA hZ hP hD hS hq [2] rfl (by decide) gl_MA_32 gs_JA_fill gini_JA gc_JA_fill hd_JA_fill ⟨rfl, rfl, Nat.le_of_ble_eq_true rfl, Nat.le_of_ble_eq_true rfl⟩ hl.1 rfl rfl (Nat.le_of_ble_eq_true rfl) d_MA_clear_13 ⟨Nat.zero_le _, Nat.zero_le _⟩
  clear hq
  refine jk_v hr hA hP hD hS [2] [0, 1, 3, 4] (WR := [(a0, .inr (0, [.ref a1, .ref a2, .ref a3, .ref k0, .int vsz, .int vmd, .int vpc, .int vba, .int vbo, .int vre, .int vti, .int vro, .int vha])), (a1, .inl (E.2.1 0, 1844, .inl wf_1)), (a3, .inl (E.2.1 0, 128, .inl vblk)), (k0, .inr (1, [.ref k1, .ref k2, .int kold, .int kwai, .int ksnt]))]) rfl rfl (by decide) (by decide) [0, 1, 4, 2, 3] (WF := [(a0, .inr (0, [.ref a1, .ref a2, .ref a3, .ref k0, .int vsz, .int vmd, .int vpc, .int vba, .int vbo, .int vre, .int vti, .int vro, .int vha])), (a1, .inl (E.2.1 0, 1844, .inl wf_1)), (a2, .inl (E.2.1 0, 8, .inl wf_2)), (a3, .inl (E.2.1 0, 128, .inl vblk)), (k0, .inr (1, [.ref k1, .ref k2, .int kold, .int kwai, .int ksnt]))]) rfl (by decide) ?_
  clear hP hD hS
  intro H locs hP hD hS
  clear hr
  refine lv_aload_n J.1 J.2.1 d_MA_clear_16 rfl (lv_at hl 0 rfl) ?_
  refine jg J hJ hP 0 rfl rfl i_MA 2 (by decide) gf_MA_18 rfl d_MA_clear_17 ?_
  refine lv_iconst (v := 0) J.1 J.2.1 d_MA_clear_20 (by decide) ?_
  replace h := g_bd h
  obtain ⟨wf_3, q_3, h⟩ := h
  have hq := ct_JA_fill l E a3 H.size 128 vblk 0 wf_3 q_3
  have hr := jrunS (p := p) (e := e) (below := below) (R := ({ frames := 1, cells := 0, slots := 0, locals := 23 })) (cells := 0) (slots := 0) (As := [.ref a3, .int 0]) (rest := []) J hJ hA hZ hP hD hS hq [3] rfl (by decide) gl_MA_32 gs_JA_fill gini_JA gc_JA_fill hd_JA_fill ⟨rfl, rfl, Nat.le_of_ble_eq_true rfl, Nat.le_of_ble_eq_true rfl⟩ hl.1 rfl rfl (Nat.le_of_ble_eq_true rfl) d_MA_clear_21 ⟨Nat.zero_le _, Nat.zero_le _⟩
  clear hq
  refine jk_v hr hA hP hD hS [3] [0, 1, 2, 4] (WR := [(a0, .inr (0, [.ref a1, .ref a2, .ref a3, .ref k0, .int vsz, .int vmd, .int vpc, .int vba, .int vbo, .int vre, .int vti, .int vro, .int vha])), (a1, .inl (E.2.1 0, 1844, .inl wf_1)), (a2, .inl (E.2.1 0, 8, .inl wf_2)), (k0, .inr (1, [.ref k1, .ref k2, .int kold, .int kwai, .int ksnt]))]) rfl rfl (by decide) (by decide) [0, 1, 2, 4, 3] (WF := [(a0, .inr (0, [.ref a1, .ref a2, .ref a3, .ref k0, .int vsz, .int vmd, .int vpc, .int vba, .int vbo, .int vre, .int vti, .int vro, .int vha])), (a1, .inl (E.2.1 0, 1844, .inl wf_1)), (a2, .inl (E.2.1 0, 8, .inl wf_2)), (a3, .inl (E.2.1 0, 128, .inl wf_3)), (k0, .inr (1, [.ref k1, .ref k2, .int kold, .int kwai, .int ksnt]))]) rfl (by decide) ?_
  clear hP hD hS
  intro H locs hP hD hS
  clear hr
  refine lv_aload_n J.1 J.2.1 d_MA_clear_24 rfl (lv_at hl 0 rfl) ?_
  refine jg J hJ hP 0 rfl rfl i_MA 3 (by decide) gf_MA_24 rfl d_MA_clear_25 ?_
  replace h := g_bd h
  obtain ⟨⟨kold_4, kwai_4, ksnt_4⟩, q_4, h⟩ := h
  try dsimp only at h
  have hq := ct_CO_clear l E k0 k1 k2 H.size kold kwai ksnt kold_4 kwai_4 ksnt_4 q_4
  have hr := jrunV (p := p) (e := e) (below := below) (R := ({ frames := 1, cells := 0, slots := 0, locals := 23 })) (cells := 0) (slots := 0) (As := []) (rest := []) J hJ hA hZ hP hD hS hq [4] rfl (by decide) gl_MA_38 gi_CO_clear gsel_CO_clear gini_CO gc_CO_clear hd_CO_clear ⟨rfl, rfl, Nat.le_of_ble_eq_true rfl, Nat.le_of_ble_eq_true rfl⟩ rfl rfl hl.1 rfl rfl (Nat.le_of_ble_eq_true rfl) d_MA_clear_28 ⟨Nat.zero_le _, Nat.zero_le _⟩
  clear hq
  refine jk_v hr hA hP hD hS [4] [0, 1, 2, 3] (WR := [(a0, .inr (0, [.ref a1, .ref a2, .ref a3, .ref k0, .int vsz, .int vmd, .int vpc, .int vba, .int vbo, .int vre, .int vti, .int vro, .int vha])), (a1, .inl (E.2.1 0, 1844, .inl wf_1)), (a2, .inl (E.2.1 0, 8, .inl wf_2)), (a3, .inl (E.2.1 0, 128, .inl wf_3))]) rfl rfl (by decide) (by decide) [0, 1, 2, 3, 4] (WF := [(a0, .inr (0, [.ref a1, .ref a2, .ref a3, .ref k0, .int vsz, .int vmd, .int vpc, .int vba, .int vbo, .int vre, .int vti, .int vro, .int vha])), (a1, .inl (E.2.1 0, 1844, .inl wf_1)), (a2, .inl (E.2.1 0, 8, .inl wf_2)), (a3, .inl (E.2.1 0, 128, .inl wf_3)), (k0, .inr (1, [.ref k1, .ref k2, .int kold_4, .int kwai_4, .int ksnt_4]))]) rfl (by decide) ?_
  clear hP hD hS
  intro H locs hP hD hS
  clear hr
  refine lv_aload_n J.1 J.2.1 d_MA_clear_31 rfl (lv_at hl 0 rfl) ?_
  refine lv_iload_n J.1 J.2.1 d_MA_clear_32 rfl (lv_at hl 1 rfl) ?_
  refine jp J hJ hP hD hS 0 rfl rfl i_MA t_MA t_MA_ok n_MA 4 (by decide) gf_MA_28 rfl rfl rfl (Nat.le_of_ble_eq_true rfl) d_MA_clear_33 (WS' := [(a0, .inr (0, [.ref a1, .ref a2, .ref a3, .ref k0, .int p1, .int vmd, .int vpc, .int vba, .int vbo, .int vre, .int vti, .int vro, .int vha])), (a1, .inl (E.2.1 0, 1844, .inl wf_1)), (a2, .inl (E.2.1 0, 8, .inl wf_2)), (a3, .inl (E.2.1 0, 128, .inl wf_3)), (k0, .inr (1, [.ref k1, .ref k2, .int kold_4, .int kwai_4, .int ksnt_4]))]) rfl ?_
  clear hP hD hS
  intro H locs hP hD hS
  refine lv_aload_n J.1 J.2.1 d_MA_clear_36 rfl (lv_at hl 0 rfl) ?_
  refine lv_iconst (v := 0) J.1 J.2.1 d_MA_clear_37 (by decide) ?_
  refine jp J hJ hP hD hS 0 rfl rfl i_MA t_MA t_MA_ok n_MA 5 (by decide) gf_MA_41 rfl rfl rfl (Nat.le_of_ble_eq_true rfl) d_MA_clear_38 (WS' := [(a0, .inr (0, [.ref a1, .ref a2, .ref a3, .ref k0, .int p1, .int 0, .int vpc, .int vba, .int vbo, .int vre, .int vti, .int vro, .int vha])), (a1, .inl (E.2.1 0, 1844, .inl wf_1)), (a2, .inl (E.2.1 0, 8, .inl wf_2)), (a3, .inl (E.2.1 0, 128, .inl wf_3)), (k0, .inr (1, [.ref k1, .ref k2, .int kold_4, .int kwai_4, .int ksnt_4]))]) rfl ?_
  clear hP hD hS
  intro H locs hP hD hS
  refine lv_aload_n J.1 J.2.1 d_MA_clear_41 rfl (lv_at hl 0 rfl) ?_
  refine lv_bipush (v := 16) J.1 J.2.1 d_MA_clear_42 (by decide) ?_
  refine jp J hJ hP hD hS 0 rfl rfl i_MA t_MA t_MA_ok n_MA 6 (by decide) gf_MA_44 rfl rfl rfl (Nat.le_of_ble_eq_true rfl) d_MA_clear_44 (WS' := [(a0, .inr (0, [.ref a1, .ref a2, .ref a3, .ref k0, .int p1, .int 0, .int 16, .int vba, .int vbo, .int vre, .int vti, .int vro, .int vha])), (a1, .inl (E.2.1 0, 1844, .inl wf_1)), (a2, .inl (E.2.1 0, 8, .inl wf_2)), (a3, .inl (E.2.1 0, 128, .inl wf_3)), (k0, .inr (1, [.ref k1, .ref k2, .int kold_4, .int kwai_4, .int ksnt_4]))]) rfl ?_
  clear hP hD hS
  intro H locs hP hD hS
  refine lv_aload_n J.1 J.2.1 d_MA_clear_47 rfl (lv_at hl 0 rfl) ?_
  refine lv_iconst (v := 0) J.1 J.2.1 d_MA_clear_48 (by decide) ?_
  refine jp J hJ hP hD hS 0 rfl rfl i_MA t_MA t_MA_ok n_MA 7 (by decide) gf_MA_47 rfl rfl rfl (Nat.le_of_ble_eq_true rfl) d_MA_clear_49 (WS' := [(a0, .inr (0, [.ref a1, .ref a2, .ref a3, .ref k0, .int p1, .int 0, .int 16, .int 0, .int vbo, .int vre, .int vti, .int vro, .int vha])), (a1, .inl (E.2.1 0, 1844, .inl wf_1)), (a2, .inl (E.2.1 0, 8, .inl wf_2)), (a3, .inl (E.2.1 0, 128, .inl wf_3)), (k0, .inr (1, [.ref k1, .ref k2, .int kold_4, .int kwai_4, .int ksnt_4]))]) rfl ?_
  clear hP hD hS
  intro H locs hP hD hS
  refine lv_aload_n J.1 J.2.1 d_MA_clear_52 rfl (lv_at hl 0 rfl) ?_
  refine lv_iload_n J.1 J.2.1 d_MA_clear_53 rfl (lv_at hl 1 rfl) ?_
  refine jp J hJ hP hD hS 0 rfl rfl i_MA t_MA t_MA_ok n_MA 8 (by decide) gf_MA_50 rfl rfl rfl (Nat.le_of_ble_eq_true rfl) d_MA_clear_54 (WS' := [(a0, .inr (0, [.ref a1, .ref a2, .ref a3, .ref k0, .int p1, .int 0, .int 16, .int 0, .int p1, .int vre, .int vti, .int vro, .int vha])), (a1, .inl (E.2.1 0, 1844, .inl wf_1)), (a2, .inl (E.2.1 0, 8, .inl wf_2)), (a3, .inl (E.2.1 0, 128, .inl wf_3)), (k0, .inr (1, [.ref k1, .ref k2, .int kold_4, .int kwai_4, .int ksnt_4]))]) rfl ?_
  clear hP hD hS
  intro H locs hP hD hS
  refine lv_aload_n J.1 J.2.1 d_MA_clear_57 rfl (lv_at hl 0 rfl) ?_
  refine lv_iload_n J.1 J.2.1 d_MA_clear_58 rfl (lv_at hl 1 rfl) ?_
  refine jp J hJ hP hD hS 0 rfl rfl i_MA t_MA t_MA_ok n_MA 9 (by decide) gf_MA_53 rfl rfl rfl (Nat.le_of_ble_eq_true rfl) d_MA_clear_59 (WS' := [(a0, .inr (0, [.ref a1, .ref a2, .ref a3, .ref k0, .int p1, .int 0, .int 16, .int 0, .int p1, .int p1, .int vti, .int vro, .int vha])), (a1, .inl (E.2.1 0, 1844, .inl wf_1)), (a2, .inl (E.2.1 0, 8, .inl wf_2)), (a3, .inl (E.2.1 0, 128, .inl wf_3)), (k0, .inr (1, [.ref k1, .ref k2, .int kold_4, .int kwai_4, .int ksnt_4]))]) rfl ?_
  clear hP hD hS
  intro H locs hP hD hS
  refine lv_aload_n J.1 J.2.1 d_MA_clear_62 rfl (lv_at hl 0 rfl) ?_
  refine lv_iconst (v := 0) J.1 J.2.1 d_MA_clear_63 (by decide) ?_
  refine jp J hJ hP hD hS 0 rfl rfl i_MA t_MA t_MA_ok n_MA 10 (by decide) gf_MA_56 rfl rfl rfl (Nat.le_of_ble_eq_true rfl) d_MA_clear_64 (WS' := [(a0, .inr (0, [.ref a1, .ref a2, .ref a3, .ref k0, .int p1, .int 0, .int 16, .int 0, .int p1, .int p1, .int 0, .int vro, .int vha])), (a1, .inl (E.2.1 0, 1844, .inl wf_1)), (a2, .inl (E.2.1 0, 8, .inl wf_2)), (a3, .inl (E.2.1 0, 128, .inl wf_3)), (k0, .inr (1, [.ref k1, .ref k2, .int kold_4, .int kwai_4, .int ksnt_4]))]) rfl ?_
  clear hP hD hS
  intro H locs hP hD hS
  refine lv_aload_n J.1 J.2.1 d_MA_clear_67 rfl (lv_at hl 0 rfl) ?_
  refine lv_iconst (v := 0) J.1 J.2.1 d_MA_clear_68 (by decide) ?_
  refine jp J hJ hP hD hS 0 rfl rfl i_MA t_MA t_MA_ok n_MA 11 (by decide) gf_MA_59 rfl rfl rfl (Nat.le_of_ble_eq_true rfl) d_MA_clear_69 (WS' := [(a0, .inr (0, [.ref a1, .ref a2, .ref a3, .ref k0, .int p1, .int 0, .int 16, .int 0, .int p1, .int p1, .int 0, .int 0, .int vha])), (a1, .inl (E.2.1 0, 1844, .inl wf_1)), (a2, .inl (E.2.1 0, 8, .inl wf_2)), (a3, .inl (E.2.1 0, 128, .inl wf_3)), (k0, .inr (1, [.ref k1, .ref k2, .int kold_4, .int kwai_4, .int ksnt_4]))]) rfl ?_
  clear hP hD hS
  intro H locs hP hD hS
  refine lv_aload_n J.1 J.2.1 d_MA_clear_72 rfl (lv_at hl 0 rfl) ?_
  refine lv_iconst (v := 0) J.1 J.2.1 d_MA_clear_73 (by decide) ?_
  refine jp J hJ hP hD hS 0 rfl rfl i_MA t_MA t_MA_ok n_MA 12 (by decide) gf_MA_63 rfl rfl rfl (Nat.le_of_ble_eq_true rfl) d_MA_clear_74 (WS' := [(a0, .inr (0, [.ref a1, .ref a2, .ref a3, .ref k0, .int p1, .int 0, .int 16, .int 0, .int p1, .int p1, .int 0, .int 0, .int 0])), (a1, .inl (E.2.1 0, 1844, .inl wf_1)), (a2, .inl (E.2.1 0, 8, .inl wf_2)), (a3, .inl (E.2.1 0, 128, .inl wf_3)), (k0, .inr (1, [.ref k1, .ref k2, .int kold_4, .int kwai_4, .int ksnt_4]))]) rfl ?_
  clear hP hD hS
  intro H locs hP hD hS
  have h := Option.some.inj h
  have e_0 := (Prod.mk.inj h).1
  have h := (Prod.mk.inj h).2
  have e_1 := (Prod.mk.inj h).1
  have h := (Prod.mk.inj h).2
  have e_2 := (Prod.mk.inj h).1
  have h := (Prod.mk.inj h).2
  have e_3 := (Prod.mk.inj h).1
  have h := (Prod.mk.inj h).2
  have e_4 := (Prod.mk.inj h).1
  have h := (Prod.mk.inj h).2
  have e_5 := (Prod.mk.inj h).1
  have h := (Prod.mk.inj h).2
  have e_6 := (Prod.mk.inj h).1
  have h := (Prod.mk.inj h).2
  have e_7 := (Prod.mk.inj h).1
  have h := (Prod.mk.inj h).2
  have e_8 := (Prod.mk.inj h).1
  have h := (Prod.mk.inj h).2
  have e_9 := (Prod.mk.inj h).1
  have h := (Prod.mk.inj h).2
  have e_10 := (Prod.mk.inj h).1
  have h := (Prod.mk.inj h).2
  have e_11 := (Prod.mk.inj h).1
  have h := (Prod.mk.inj h).2
  have e_12 := (Prod.mk.inj h).1
  have h := (Prod.mk.inj h).2
  have e_13 := (Prod.mk.inj h).1
  have h := (Prod.mk.inj h).2
  rw [← e_0, ← e_1, ← e_2, ← e_3, ← e_4, ← e_5, ← e_6, ← e_7, ← e_8, ← e_9, ← e_10, ← e_11, ← e_12, ← e_13, ← h]
  exact jr_v J hS hP hD d_MA_clear_77

theorem hd_MA_copyIn : y_MA_copyIn.cls ≠ "java/lang/invoke/MethodHandle" ∧ y_MA_copyIn.cls ≠ "java/lang/invoke/VarHandle" ∧ (parseMethodDescriptor y_MA_copyIn.desc).map (fun d => d.parameters.length) = some 3 := by decide +kernel
def b_MA_copyIn_3 : Nat → Nat → Int32 → (Nat → Int32) → (Nat → Int32) → Int32 → Int32 → Int32 → Option ((Nat → Int32))
  | 0, _, _, _, _, _, _, _ => none
  | n + 1, wn, vsz, vmem, wf, x2, x3, x4 => (if x2 ≤ x4 then (some vmem) else (if (Int32.ofNat wn) ≤ x4 then (some vmem) else (if vsz ≤ (x3 + x4) then (some vmem) else (if ck x4 wn then (if ck (x3 + x4) 1844 then b_MA_copyIn_3 n wn vsz (upd vmem (x3 + x4).toNatClampNeg (wf x4.toNatClampNeg)) wf x2 x3 (x4 + 1) else none) else none))))
def f_MA_copyIn (wn : Nat) (vsz : Int32) (vmem : Nat → Int32) (wf : Nat → Int32) (p2 : Int32) (p3 : Int32) : Option ((Nat → Int32)) := b_MA_copyIn_3 65536 wn vsz vmem wf p2 p3 0
set_option maxHeartbeats 4000000 in
set_option maxRecDepth 100000 in
theorem kb_MA_copyIn_3 {p : Program} {l : Launch} {e : Env} {s : State} {m : MethodId} {below : List Frame} {meth : Method} {c : Code} {A : Nat → Prop} {E : jz_E} {a0 a1 a2 a3 k0 w0 : Nat} {p2 : Int32} {p3 : Int32} {o_vmem : Nat → Int32} (J : JC p s m ([.ref a0, .ref w0, .int p2, .int p3] : List Value).toArray meth c c_MA_copyIn 5 none y_MA_copyIn.cls) (hJ : jE E s) (hA : ∀ q : Nat, s.heap.size ≤ q → A q) (hZ : jz_ok E A s s.heap) : ∀ (n : Nat) (wn : Nat) (vsz : Int32) (vmd : Int32) (vpc : Int32) (vba : Int32) (vbo : Int32) (vre : Int32) (vti : Int32) (vro : Int32) (vha : Int32) (vmem : Nat → Int32) (wf : Nat → Int32) (x2 : Int32) (x3 : Int32) (x4 : Int32) (H : Heap) (locs : List Loc) (ls : Array Slot), b_MA_copyIn_3 n wn vsz vmem wf x2 x3 x4 = some o_vmem → va_P E.1 classes [(a0, .inr (0, [.ref a1, .ref a2, .ref a3, .ref k0, .int vsz, .int vmd, .int vpc, .int vba, .int vbo, .int vre, .int vti, .int vro, .int vha])), (a1, .inl (E.2.1 0, 1844, .inl vmem)), (w0, .inl (E.2.1 0, wn, .inl wf))] H → va_D A [(a0, .inr (0, [.ref a1, .ref a2, .ref a3, .ref k0, .int vsz, .int vmd, .int vpc, .int vba, .int vbo, .int vre, .int vti, .int vro, .int vha])), (a1, .inl (E.2.1 0, 1844, .inl vmem)), (w0, .inl (E.2.1 0, wn, .inl wf))] → va_S A s.heap H locs → lv_has ls 5 [(0, .ref a0), (1, .ref w0), (2, .int x2), (3, .int x3), (4, .int x4)] → W p l e ({ frames := 0, cells := 0, slots := 0, locals := 0 }) s m ([.ref a0, .ref w0, .int p2, .int p3] : List Value).toArray below meth c H locs 0 0 (MQ below (va_Qv (fun (u : va_W) => u = [(a0, .inr (0, [.ref a1, .ref a2, .ref a3, .ref k0, .int vsz, .int vmd, .int vpc, .int vba, .int vbo, .int vre, .int vti, .int vro, .int vha])), (a1, .inl (E.2.1 0, 1844, .inl o_vmem)), (w0, .inl (E.2.1 0, wn, .inl wf))]) (BW E A) A) ([.ref a0, .ref w0, .int p2, .int p3] : List Value).toArray s 0 0 A) (F0 m 3 ls []) := by
  intro n
  induction n with
  | zero => intro wn vsz vmd vpc vba vbo vre vti vro vha vmem wf x2 x3 x4 H locs ls h; cases h
  | succ n ih =>
    intro wn vsz vmd vpc vba vbo vre vti vro vha vmem wf x2 x3 x4 H locs ls h hP hD hS hl
    rw [b_MA_copyIn_3] at h
    refine lv_iload J.1 J.2.1 d_MA_copyIn_3 (lv_at hl 4 rfl) ?_
    refine lv_iload_n J.1 J.2.1 d_MA_copyIn_5 rfl (lv_at hl 2 rfl) ?_
    refine lv_icmp_ge (tgt := 46) J.1 J.2.1 d_MA_copyIn_6 (by decide) (fun c_1 => ?_) (fun c_1 => ?_)
    · replace h := g_t c_1 h
      have h := Option.some.inj h
      rw [← h]
      exact jr_v J hS hP hD d_MA_copyIn_46
    · replace h := g_f c_1 h
      refine lv_iload J.1 J.2.1 d_MA_copyIn_9 (lv_at hl 4 rfl) ?_
      refine lv_aload_n J.1 J.2.1 d_MA_copyIn_11 rfl (lv_at hl 1 rfl) ?_
      refine va_alen J.1 J.2.1 hJ.1 hP 2 0 rfl rfl (v := (Int32.ofNat wn)) rfl d_MA_copyIn_12 ?_
      refine lv_icmp_ge (tgt := 46) J.1 J.2.1 d_MA_copyIn_13 (by decide) (fun c_2 => ?_) (fun c_2 => ?_)
      · replace h := g_t c_2 h
        have h := Option.some.inj h
        rw [← h]
        exact jr_v J hS hP hD d_MA_copyIn_46
      · replace h := g_f c_2 h
        refine lv_iload_n J.1 J.2.1 d_MA_copyIn_16 rfl (lv_at hl 3 rfl) ?_
        refine lv_iload J.1 J.2.1 d_MA_copyIn_17 (lv_at hl 4 rfl) ?_
        refine lv_iadd J.1 J.2.1 d_MA_copyIn_19 ?_
        refine lv_aload_n J.1 J.2.1 d_MA_copyIn_20 rfl (lv_at hl 0 rfl) ?_
        refine jg J hJ hP 0 rfl rfl i_MA 4 (by decide) gf_MA_28 rfl d_MA_copyIn_21 ?_
        refine lv_icmp_ge (tgt := 46) J.1 J.2.1 d_MA_copyIn_24 (by decide) (fun c_3 => ?_) (fun c_3 => ?_)
        · replace h := g_t c_3 h
          have h := Option.some.inj h
          rw [← h]
          exact jr_v J hS hP hD d_MA_copyIn_46
        · replace h := g_f c_3 h
          refine lv_aload_n J.1 J.2.1 d_MA_copyIn_27 rfl (lv_at hl 0 rfl) ?_
          refine jg J hJ hP 0 rfl rfl i_MA 0 (by decide) gf_MA_9 rfl d_MA_copyIn_28 ?_
          refine lv_iload_n J.1 J.2.1 d_MA_copyIn_31 rfl (lv_at hl 3 rfl) ?_
          refine lv_iload J.1 J.2.1 d_MA_copyIn_32 (lv_at hl 4 rfl) ?_
          refine lv_iadd J.1 J.2.1 d_MA_copyIn_34 ?_
          refine lv_aload_n J.1 J.2.1 d_MA_copyIn_35 rfl (lv_at hl 1 rfl) ?_
          refine lv_iload J.1 J.2.1 d_MA_copyIn_36 (lv_at hl 4 rfl) ?_
          replace h := g_ck h
          obtain ⟨k_4, h⟩ := h
          refine jai J hJ hP 2 rfl k_4 d_MA_copyIn_38 ?_
          replace h := g_ck h
          obtain ⟨k_5, h⟩ := h
          refine jsi J hJ hP hD hS 1 rfl k_5 d_MA_copyIn_39 (WS' := [(a0, .inr (0, [.ref a1, .ref a2, .ref a3, .ref k0, .int vsz, .int vmd, .int vpc, .int vba, .int vbo, .int vre, .int vti, .int vro, .int vha])), (a1, .inl (E.2.1 0, 1844, .inl (upd vmem (x3 + x4).toNatClampNeg (wf x4.toNatClampNeg)))), (w0, .inl (E.2.1 0, wn, .inl wf))]) rfl ?_
          clear hP hD hS
          intro H locs hP hD hS
          refine lv_iinc (v := (x4 + 1)) (lv' := [(4, .int (x4 + 1)), (0, .ref a0), (1, .ref w0), (2, .int x2), (3, .int x3)]) J.1 J.2.1 d_MA_copyIn_40 hl (k := 4) rfl rfl (by decide) rfl ?_
          clear hl
          intro ls hl
          refine lv_goto (tgt := 3) J.1 J.2.1 d_MA_copyIn_43 (by decide) ?_
          exact ih _ _ _ _ _ _ _ _ _ _ _ _ _ _ _ _ _ _ h hP hD hS (lv_sub hl [1, 2, 3, 4, 0] rfl)
set_option maxHeartbeats 4000000 in
set_option maxRecDepth 100000 in
theorem ct_MA_copyIn (l : Launch) (E : jz_E) (a0 a1 a2 a3 k0 w0 : Nat) (sz : Nat) (wn : Nat) (vsz : Int32) (vmd : Int32) (vpc : Int32) (vba : Int32) (vbo : Int32) (vre : Int32) (vti : Int32) (vro : Int32) (vha : Int32) (vmem : Nat → Int32) (wf : Nat → Int32) (p2 : Int32) (p3 : Int32) (o_vmem : Nat → Int32)  (h : f_MA_copyIn wn vsz vmem wf p2 p3 = some o_vmem) : CTv l E y_MA_copyIn c_MA_copyIn 5 none ({ frames := 0, cells := 0, slots := 0, locals := 0 }) [.ref a0, .ref w0, .int p2, .int p3] [(a0, .inr (0, [.ref a1, .ref a2, .ref a3, .ref k0, .int vsz, .int vmd, .int vpc, .int vba, .int vbo, .int vre, .int vti, .int vro, .int vha])), (a1, .inl (E.2.1 0, 1844, .inl vmem)), (w0, .inl (E.2.1 0, wn, .inl wf))] sz [(a0, .inr (0, [.ref a1, .ref a2, .ref a3, .ref k0, .int vsz, .int vmd, .int vpc, .int vba, .int vbo, .int vre, .int vti, .int vro, .int vha])), (a1, .inl (E.2.1 0, 1844, .inl o_vmem)), (w0, .inl (E.2.1 0, wn, .inl wf))] := by
  refine jw (by decide +kernel) (Nat.le_of_ble_eq_true rfl) ?_
  intro p e s m below meth c A ls J hJ hAe hsz hA hZ hP hD hl
  rw [← hAe]
  have hS : va_S A s.heap s.heap [] := va_S.rf
  have hl : lv_has ls 5 [(0, .ref a0), (1, .ref w0), (2, .int p2), (3, .int p3)] := hl
  unfold f_MA_copyIn at h
  refine lv_iconst (v := 0) J.1 J.2.1 d_MA_copyIn_0 (by decide) ?_
  refine lv_istore (lv' := [(4, .int 0), (0, .ref a0), (1, .ref w0), (2, .int p2), (3, .int p3)]) J.1 J.2.1 d_MA_copyIn_1 hl (by decide) rfl ?_
  clear hl
  intro ls hl
  exact kb_MA_copyIn_3 J hJ hA hZ _ _ _ _ _ _ _ _ _ _ _ _ _ _ _ _ _ _ _ h hP hD hS (lv_sub hl [1, 2, 3, 4, 0] rfl)

def b_MA_copyIns_3 : Nat → (Nat → Int32) → Int32 → (Nat → Int32) → Int32 → Int32 → Int32 → Option ((Nat → Int32))
  | 0, _, _, _, _, _, _ => none
  | n + 1, wW, vsz, vmem, x2, x3, x4 => (if x2 ≤ x4 then (some vmem) else (if (410 : Int32) ≤ x4 then (some vmem) else (if vsz ≤ (x3 + x4) then (some vmem) else (if ck x4 410 then (if ck (x3 + x4) 1844 then b_MA_copyIns_3 n wW vsz (upd vmem (x3 + x4).toNatClampNeg (wW x4.toNatClampNeg)) x2 x3 (x4 + 1) else none) else none))))
def f_MA_copyIns (wW : Nat → Int32) (vsz : Int32) (vmem : Nat → Int32) (p2 : Int32) (p3 : Int32) : Option ((Nat → Int32)) := b_MA_copyIns_3 65536 wW vsz vmem p2 p3 0
set_option maxHeartbeats 4000000 in
set_option maxRecDepth 100000 in
theorem kb_MA_copyIns_3 {p : Program} {l : Launch} {e : Env} {s : State} {m : MethodId} {below : List Frame} {meth : Method} {c : Code} {A : Nat → Prop} {E : jz_E} {a0 a1 a2 a3 k0 w9 : Nat} {wW : Nat → Int32} {p2 : Int32} {p3 : Int32} {o_vmem : Nat → Int32} (J : JC p s m ([.ref a0, .ref w9, .int p2, .int p3] : List Value).toArray meth c c_MA_copyIn 5 none y_MA_copyIn.cls) (hJ : jE E s) (hA : ∀ q : Nat, s.heap.size ≤ q → A q) (hZ : jz_ok E A s s.heap) (htW : (w9, 410, wW) ∈ E.2.2.2.1) : ∀ (n : Nat) (vsz : Int32) (vmd : Int32) (vpc : Int32) (vba : Int32) (vbo : Int32) (vre : Int32) (vti : Int32) (vro : Int32) (vha : Int32) (vmem : Nat → Int32) (x2 : Int32) (x3 : Int32) (x4 : Int32) (H : Heap) (locs : List Loc) (ls : Array Slot), b_MA_copyIns_3 n wW vsz vmem x2 x3 x4 = some o_vmem → va_P E.1 classes [(a0, .inr (0, [.ref a1, .ref a2, .ref a3, .ref k0, .int vsz, .int vmd, .int vpc, .int vba, .int vbo, .int vre, .int vti, .int vro, .int vha])), (a1, .inl (E.2.1 0, 1844, .inl vmem))] H → va_D A [(a0, .inr (0, [.ref a1, .ref a2, .ref a3, .ref k0, .int vsz, .int vmd, .int vpc, .int vba, .int vbo, .int vre, .int vti, .int vro, .int vha])), (a1, .inl (E.2.1 0, 1844, .inl vmem))] → va_S A s.heap H locs → lv_has ls 5 [(0, .ref a0), (1, .ref w9), (2, .int x2), (3, .int x3), (4, .int x4)] → W p l e ({ frames := 0, cells := 0, slots := 0, locals := 0 }) s m ([.ref a0, .ref w9, .int p2, .int p3] : List Value).toArray below meth c H locs 0 0 (MQ below (va_Qv (fun (u : va_W) => u = [(a0, .inr (0, [.ref a1, .ref a2, .ref a3, .ref k0, .int vsz, .int vmd, .int vpc, .int vba, .int vbo, .int vre, .int vti, .int vro, .int vha])), (a1, .inl (E.2.1 0, 1844, .inl o_vmem))]) (BW E A) A) ([.ref a0, .ref w9, .int p2, .int p3] : List Value).toArray s 0 0 A) (F0 m 3 ls []) := by
  intro n
  induction n with
  | zero => intro vsz vmd vpc vba vbo vre vti vro vha vmem x2 x3 x4 H locs ls h; cases h
  | succ n ih =>
    intro vsz vmd vpc vba vbo vre vti vro vha vmem x2 x3 x4 H locs ls h hP hD hS hl
    rw [b_MA_copyIns_3] at h
    refine lv_iload J.1 J.2.1 d_MA_copyIn_3 (lv_at hl 4 rfl) ?_
    refine lv_iload_n J.1 J.2.1 d_MA_copyIn_5 rfl (lv_at hl 2 rfl) ?_
    refine lv_icmp_ge (tgt := 46) J.1 J.2.1 d_MA_copyIn_6 (by decide) (fun c_1 => ?_) (fun c_1 => ?_)
    · replace h := g_t c_1 h
      have h := Option.some.inj h
      rw [← h]
      exact jr_v J hS hP hD d_MA_copyIn_46
    · replace h := g_f c_1 h
      refine lv_iload J.1 J.2.1 d_MA_copyIn_9 (lv_at hl 4 rfl) ?_
      refine lv_aload_n J.1 J.2.1 d_MA_copyIn_11 rfl (lv_at hl 1 rfl) ?_
      refine va_tlen J.1 J.2.1 (hZ.2.1 _ htW) hS (v := 410) rfl d_MA_copyIn_12 ?_
      refine lv_icmp_ge (tgt := 46) J.1 J.2.1 d_MA_copyIn_13 (by decide) (fun c_2 => ?_) (fun c_2 => ?_)
      · replace h := g_t c_2 h
        have h := Option.some.inj h
        rw [← h]
        exact jr_v J hS hP hD d_MA_copyIn_46
      · replace h := g_f c_2 h
        refine lv_iload_n J.1 J.2.1 d_MA_copyIn_16 rfl (lv_at hl 3 rfl) ?_
        refine lv_iload J.1 J.2.1 d_MA_copyIn_17 (lv_at hl 4 rfl) ?_
        refine lv_iadd J.1 J.2.1 d_MA_copyIn_19 ?_
        refine lv_aload_n J.1 J.2.1 d_MA_copyIn_20 rfl (lv_at hl 0 rfl) ?_
        refine jg J hJ hP 0 rfl rfl i_MA 4 (by decide) gf_MA_28 rfl d_MA_copyIn_21 ?_
        refine lv_icmp_ge (tgt := 46) J.1 J.2.1 d_MA_copyIn_24 (by decide) (fun c_3 => ?_) (fun c_3 => ?_)
        · replace h := g_t c_3 h
          have h := Option.some.inj h
          rw [← h]
          exact jr_v J hS hP hD d_MA_copyIn_46
        · replace h := g_f c_3 h
          refine lv_aload_n J.1 J.2.1 d_MA_copyIn_27 rfl (lv_at hl 0 rfl) ?_
          refine jg J hJ hP 0 rfl rfl i_MA 0 (by decide) gf_MA_9 rfl d_MA_copyIn_28 ?_
          refine lv_iload_n J.1 J.2.1 d_MA_copyIn_31 rfl (lv_at hl 3 rfl) ?_
          refine lv_iload J.1 J.2.1 d_MA_copyIn_32 (lv_at hl 4 rfl) ?_
          refine lv_iadd J.1 J.2.1 d_MA_copyIn_34 ?_
          refine lv_aload_n J.1 J.2.1 d_MA_copyIn_35 rfl (lv_at hl 1 rfl) ?_
          refine lv_iload J.1 J.2.1 d_MA_copyIn_36 (lv_at hl 4 rfl) ?_
          replace h := g_ck h
          obtain ⟨k_4, h⟩ := h
          refine va_ti J.1 J.2.1 (hZ.2.1 _ htW) hS k_4 rfl d_MA_copyIn_38 ?_
          replace h := g_ck h
          obtain ⟨k_5, h⟩ := h
          refine jsi J hJ hP hD hS 1 rfl k_5 d_MA_copyIn_39 (WS' := [(a0, .inr (0, [.ref a1, .ref a2, .ref a3, .ref k0, .int vsz, .int vmd, .int vpc, .int vba, .int vbo, .int vre, .int vti, .int vro, .int vha])), (a1, .inl (E.2.1 0, 1844, .inl (upd vmem (x3 + x4).toNatClampNeg (wW x4.toNatClampNeg))))]) rfl ?_
          clear hP hD hS
          intro H locs hP hD hS
          refine lv_iinc (v := (x4 + 1)) (lv' := [(4, .int (x4 + 1)), (0, .ref a0), (1, .ref w9), (2, .int x2), (3, .int x3)]) J.1 J.2.1 d_MA_copyIn_40 hl (k := 4) rfl rfl (by decide) rfl ?_
          clear hl
          intro ls hl
          refine lv_goto (tgt := 3) J.1 J.2.1 d_MA_copyIn_43 (by decide) ?_
          exact ih _ _ _ _ _ _ _ _ _ _ _ _ _ _ _ _ h hP hD hS (lv_sub hl [1, 2, 3, 4, 0] rfl)
set_option maxHeartbeats 4000000 in
set_option maxRecDepth 100000 in
theorem ct_MA_copyIns (l : Launch) (E : jz_E) (a0 a1 a2 a3 k0 w9 : Nat) (sz : Nat) (wW : Nat → Int32) (vsz : Int32) (vmd : Int32) (vpc : Int32) (vba : Int32) (vbo : Int32) (vre : Int32) (vti : Int32) (vro : Int32) (vha : Int32) (vmem : Nat → Int32) (p2 : Int32) (p3 : Int32) (o_vmem : Nat → Int32)  (htW : (w9, 410, wW) ∈ E.2.2.2.1) (h : f_MA_copyIns wW vsz vmem p2 p3 = some o_vmem) : CTv l E y_MA_copyIn c_MA_copyIn 5 none ({ frames := 0, cells := 0, slots := 0, locals := 0 }) [.ref a0, .ref w9, .int p2, .int p3] [(a0, .inr (0, [.ref a1, .ref a2, .ref a3, .ref k0, .int vsz, .int vmd, .int vpc, .int vba, .int vbo, .int vre, .int vti, .int vro, .int vha])), (a1, .inl (E.2.1 0, 1844, .inl vmem))] sz [(a0, .inr (0, [.ref a1, .ref a2, .ref a3, .ref k0, .int vsz, .int vmd, .int vpc, .int vba, .int vbo, .int vre, .int vti, .int vro, .int vha])), (a1, .inl (E.2.1 0, 1844, .inl o_vmem))] := by
  refine jw (by decide +kernel) (Nat.le_of_ble_eq_true rfl) ?_
  intro p e s m below meth c A ls J hJ hAe hsz hA hZ hP hD hl
  rw [← hAe]
  have hS : va_S A s.heap s.heap [] := va_S.rf
  have hl : lv_has ls 5 [(0, .ref a0), (1, .ref w9), (2, .int p2), (3, .int p3)] := hl
  unfold f_MA_copyIns at h
  refine lv_iconst (v := 0) J.1 J.2.1 d_MA_copyIn_0 (by decide) ?_
  refine lv_istore (lv' := [(4, .int 0), (0, .ref a0), (1, .ref w9), (2, .int p2), (3, .int p3)]) J.1 J.2.1 d_MA_copyIn_1 hl (by decide) rfl ?_
  clear hl
  intro ls hl
  exact kb_MA_copyIns_3 J hJ hA hZ htW _ _ _ _ _ _ _ _ _ _ _ _ _ _ _ _ _ h hP hD hS (lv_sub hl [1, 2, 3, 4, 0] rfl)
