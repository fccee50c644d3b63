theorem hd_MA_compute : y_MA_compute.cls ≠ "java/lang/invoke/MethodHandle" ∧ y_MA_compute.cls ≠ "java/lang/invoke/VarHandle" ∧ (parseMethodDescriptor y_MA_compute.desc).map (fun d => d.parameters.length) = some 4 := by decide +kernel
def f_MA_compute (vmd : Int32) (vpc : Int32) (vti : Int32) (vro : Int32) (vreg : Nat → Int32) (p1 : Int32) (p2 : Int32) (p3 : Int32) (p4 : Int32) : Option (Int32 × Int32 × Int32 × (Nat → Int32)) := (if (p1) = 1 then (if ck p2 8 then ((f_MA_goOn vmd vti vro (vpc + 2)).bind fun (vpc_3, vti_3, vro_3) => (some (vpc_3, vti_3, vro_3, (upd vreg p2.toNatClampNeg p4)))) else none) else (if (p1) = 6 then (if ck p3 8 then (if ck p2 8 then ((f_MA_goOn vmd vti vro (vpc + 2)).bind fun (vpc_7, vti_7, vro_7) => (some (vpc_7, vti_7, vro_7, (upd vreg p2.toNatClampNeg (vreg p3.toNatClampNeg))))) else none) else none) else (if (p1) = 7 then (if ck p2 8 then (if ck p3 8 then (if ck p2 8 then ((f_MA_goOn vmd vti vro (vpc + 2)).bind fun (vpc_12, vti_12, vro_12) => (some (vpc_12, vti_12, vro_12, (upd vreg p2.toNatClampNeg (((vreg p2.toNatClampNeg) + (vreg p3.toNatClampNeg)) &&& 65535))))) else none) else none) else none) else (if (p1) = 8 then (if ck p2 8 then (if ck p3 8 then (if ck p2 8 then ((f_MA_goOn vmd vti vro (vpc + 2)).bind fun (vpc_17, vti_17, vro_17) => (some (vpc_17, vti_17, vro_17, (upd vreg p2.toNatClampNeg (((vreg p2.toNatClampNeg) - (vreg p3.toNatClampNeg)) &&& 65535))))) else none) else none) else none) else (if (p1) = 9 then (if ck p2 8 then (if ck p3 8 then (if ck p2 8 then ((f_MA_goOn vmd vti vro (vpc + 2)).bind fun (vpc_22, vti_22, vro_22) => (some (vpc_22, vti_22, vro_22, (upd vreg p2.toNatClampNeg ((vreg p2.toNatClampNeg) &&& (vreg p3.toNatClampNeg)))))) else none) else none) else none) else (if (p1) = 10 then (if ck p2 8 then (if ck p3 8 then (if (vreg p3.toNatClampNeg) ≤ (vreg p2.toNatClampNeg) then (if ck p2 8 then ((f_MA_goOn vmd vti vro (vpc + 2)).bind fun (vpc_28, vti_28, vro_28) => (some (vpc_28, vti_28, vro_28, (upd vreg p2.toNatClampNeg 0)))) else none) else (if ck p2 8 then ((f_MA_goOn vmd vti vro (vpc + 2)).bind fun (vpc_30, vti_30, vro_30) => (some (vpc_30, vti_30, vro_30, (upd vreg p2.toNatClampNeg 1)))) else none)) else none) else none) else (if (p1) = 11 then (if ck p2 8 then ((f_MA_shifted  (vreg p2.toNatClampNeg) p4).bind fun r_33 => (if ck p2 8 then ((f_MA_goOn vmd vti vro (vpc + 2)).bind fun (vpc_35, vti_35, vro_35) => (some (vpc_35, vti_35, vro_35, (upd vreg p2.toNatClampNeg r_33)))) else none)) else none) else (if (p1) = 12 then ((f_MA_goOn vmd vti vro p4).bind fun (vpc_37, vti_37, vro_37) => (some (vpc_37, vti_37, vro_37, vreg))) else (if (p1) = 13 then (if ck p2 8 then (if (vreg p2.toNatClampNeg) = (0 : Int32) then ((f_MA_goOn vmd vti vro p4).bind fun (vpc_42, vti_42, vro_42) => (some (vpc_42, vti_42, vro_42, vreg))) else ((f_MA_goOn vmd vti vro (vpc + 2)).bind fun (vpc_41, vti_41, vro_41) => (some (vpc_41, vti_41, vro_41, vreg)))) else none) else (if (p1) = 14 then (if ck p2 8 then ((f_MA_goOn vmd vti vro (vreg p2.toNatClampNeg)).bind fun (vpc_45, vti_45, vro_45) => (some (vpc_45, vti_45, vro_45, vreg))) else none) else (if (p1) = 15 then (if ck p2 8 then ((f_MA_goOn vmd vti vro p4).bind fun (vpc_48, vti_48, vro_48) => (some (vpc_48, vti_48, vro_48, (upd vreg p2.toNatClampNeg (vpc + 2))))) else none) else ((f_MA_goOn vmd vti vro (vpc + 2)).bind fun (vpc_49, vti_49, vro_49) => (some (vpc_49, vti_49, vro_49, vreg))))))))))))))
set_option maxHeartbeats 4000000 in
set_option maxRecDepth 100000 in
theorem ct_MA_compute (l : Launch) (E : jz_E) (a0 a1 a2 a3 k0 : Nat) (sz : Nat) (vsz : Int32) (vmd : Int32) (vpc : Int32) (vba : Int32) (vbo : Int32) (vre : Int32) (vti : Int32) (vro : Int32) (vha : Int32) (vreg : Nat → Int32) (p1 : Int32) (p2 : Int32) (p3 : Int32) (p4 : Int32) (o_vpc : Int32) (o_vti : Int32) (o_vro : Int32) (o_vreg : Nat → Int32)  (h : f_MA_compute vmd vpc vti vro vreg p1 p2 p3 p4 = some (o_vpc, o_vti, o_vro, o_vreg)) : CTv l E y_MA_compute c_MA_compute 6 none ({ frames := 1, cells := 0, slots := 0, locals := 22 }) [.ref a0, .int p1, .int p2, .int p3, .int p4] [(a0, .inr (0, [.ref a1, .ref a2, .ref a3, .ref k0, .int vsz, .int vmd, .int vpc, .int vba, .int vbo, .int vre, .int vti, .int vro, .int vha])), (a2, .inl (E.2.1 0, 8, .inl vreg))] sz [(a0, .inr (0, [.ref a1, .ref a2, .ref a3, .ref k0, .int vsz, .int vmd, .int o_vpc, .int vba, .int vbo, .int vre, .int o_vti, .int o_vro, .int vha])), (a2, .inl (E.2.1 0, 8, .inl o_vreg))] := by
  refine jw (by decide +kernel) (Nat.le_of_ble_eq_true rfl) ?_
  intro p e s m below meth c A ls J hJ hAe hsz hA hZ hP hD hl
  rw [← hAe]
  have hS : va_S A s.heap s.heap [] := va_S.rf
  have hl : lv_has ls 6 [(0, .ref a0), (1, .int p1), (2, .int p2), (3, .int p3), (4, .int p4)] := hl
  unfold f_MA_compute at h
  refine lv_aload_n J.1 J.2.1 d_MA_compute_0 rfl (lv_at hl 0 rfl) ?_
  refine jg J hJ hP 0 rfl rfl i_MA 6 (by decide) gf_MA_44 rfl d_MA_compute_1 ?_
  refine lv_iconst (v := 2) J.1 J.2.1 d_MA_compute_4 (by decide) ?_
  refine lv_iadd J.1 J.2.1 d_MA_compute_5 ?_
  refine lv_istore (lv' := [(5, .int (vpc + 2)), (0, .ref a0), (1, .int p1), (2, .int p2), (3, .int p3), (4, .int p4)]) J.1 J.2.1 d_MA_compute_6 hl (by decide) rfl ?_
  clear hl
  intro ls hl
  refine lv_iload_n J.1 J.2.1 d_MA_compute_8 rfl (lv_at hl 2 rfl) ?_
  by_cases c_1 : (p1) = 1
  · replace h := g_t c_1 h
    refine lv_tableIn (off := 75) (tgt := 84) J.1 J.2.1 d_MA_compute_9 (by rw [c_1]; decide) (by rw [c_1]; decide) (by rw [c_1]; rfl) (by decide) ?_
    refine lv_aload_n J.1 J.2.1 d_MA_compute_84 rfl (lv_at hl 1 rfl) ?_
    refine jg J hJ hP 0 rfl rfl i_MA 1 (by decide) gf_MA_15 rfl d_MA_compute_85 ?_
    refine lv_iload_n J.1 J.2.1 d_MA_compute_88 rfl (lv_at hl 3 rfl) ?_
    refine lv_iload J.1 J.2.1 d_MA_compute_89 (lv_at hl 5 rfl) ?_
    replace h := g_ck h
    obtain ⟨k_2, h⟩ := h
    refine jsi J hJ hP hD hS 1 rfl k_2 d_MA_compute_91 (WS' := [(a0, .inr (0, [.ref a1, .ref a2, .ref a3, .ref k0, .int vsz, .int vmd, .int vpc, .int vba, .int vbo, .int vre, .int vti, .int vro, .int vha])), (a2, .inl (E.2.1 0, 8, .inl (upd vreg p2.toNatClampNeg p4)))]) rfl ?_
    clear hP hD hS
    intro H locs hP hD hS
    refine lv_goto (tgt := 285) J.1 J.2.1 d_MA_compute_92 (by decide) ?_
    refine lv_aload_n J.1 J.2.1 d_MA_compute_285 rfl (lv_at hl 1 rfl) ?_
    refine lv_iload J.1 J.2.1 d_MA_compute_286 (lv_at hl 0 rfl) ?_
    replace h := g_bd h
    obtain ⟨⟨vpc_3, vti_3, vro_3⟩, q_3, h⟩ := h
    try dsimp only at h
    have hq := ct_MA_goOn l E a0 a1 a2 a3 k0 H.size vsz vmd vpc vba vbo vre vti vro vha (vpc + 2) vpc_3 vti_3 vro_3 q_3
    have hr := jrunV (p := p) (e := e) (below := below) (R := ({ frames := 1, cells := 0, slots := 0, locals := 22 })) (cells := 0) (slots := 0) (As := [.int (vpc + 2)]) (rest := []) J hJ hA hZ hP hD hS hq [0] rfl (by decide) gl_MA_81 gi_MA_goOn gsel_MA_goOn gini_MA gc_MA_goOn hd_MA_goOn ⟨rfl, rfl, Nat.le_of_ble_eq_true rfl, Nat.le_of_ble_eq_true rfl⟩ rfl rfl hl.1 rfl rfl (Nat.le_of_ble_eq_true rfl) d_MA_compute_288 ⟨Nat.zero_le _, Nat.zero_le _⟩
    clear hq
    refine jk_v hr hA hP hD hS [0] [1] (WR := [(a2, .inl (E.2.1 0, 8, .inl (upd vreg p2.toNatClampNeg p4)))]) rfl rfl (by decide) (by decide) [1, 0] (WF := [(a0, .inr (0, [.ref a1, .ref a2, .ref a3, .ref k0, .int vsz, .int vmd, .int vpc_3, .int vba, .int vbo, .int vre, .int vti_3, .int vro_3, .int vha])), (a2, .inl (E.2.1 0, 8, .inl (upd vreg p2.toNatClampNeg p4)))]) rfl (by decide) ?_
    clear hP hD hS
    intro H locs hP hD hS
    clear hr
    have h := Option.some.inj h
    have e_0 := (Prod.mk.inj h).1
    have h := (Prod.mk.inj h).2
    have e_1 := (Prod.mk.inj h).1
    have h := (Prod.mk.inj h).2
    have e_2 := (Prod.mk.inj h).1
    have h := (Prod.mk.inj h).2
    rw [← e_0, ← e_1, ← e_2, ← h]
    exact jr_v J hS hP hD d_MA_compute_291
  replace h := g_f c_1 h
  by_cases c_4 : (p1) = 6
  · replace h := g_t c_4 h
    refine lv_tableIn (off := 86) (tgt := 95) J.1 J.2.1 d_MA_compute_9 (by rw [c_4]; decide) (by rw [c_4]; decide) (by rw [c_4]; rfl) (by decide) ?_
    refine lv_aload_n J.1 J.2.1 d_MA_compute_95 rfl (lv_at hl 1 rfl) ?_
    refine jg J hJ hP 0 rfl rfl i_MA 1 (by decide) gf_MA_15 rfl d_MA_compute_96 ?_
    refine lv_iload_n J.1 J.2.1 d_MA_compute_99 rfl (lv_at hl 3 rfl) ?_
    refine lv_aload_n J.1 J.2.1 d_MA_compute_100 rfl (lv_at hl 1 rfl) ?_
    refine jg J hJ hP 0 rfl rfl i_MA 1 (by decide) gf_MA_15 rfl d_MA_compute_101 ?_
    refine lv_iload_n J.1 J.2.1 d_MA_compute_104 rfl (lv_at hl 4 rfl) ?_
    replace h := g_ck h
    obtain ⟨k_5, h⟩ := h
    refine jai J hJ hP 1 rfl k_5 d_MA_compute_105 ?_
    replace h := g_ck h
    obtain ⟨k_6, h⟩ := h
    refine jsi J hJ hP hD hS 1 rfl k_6 d_MA_compute_106 (WS' := [(a0, .inr (0, [.ref a1, .ref a2, .ref a3, .ref k0, .int vsz, .int vmd, .int vpc, .int vba, .int vbo, .int vre, .int vti, .int vro, .int vha])), (a2, .inl (E.2.1 0, 8, .inl (upd vreg p2.toNatClampNeg (vreg p3.toNatClampNeg))))]) rfl ?_
    clear hP hD hS
    intro H locs hP hD hS
    refine lv_goto (tgt := 285) J.1 J.2.1 d_MA_compute_107 (by decide) ?_
    refine lv_aload_n J.1 J.2.1 d_MA_compute_285 rfl (lv_at hl 1 rfl) ?_
    refine lv_iload J.1 J.2.1 d_MA_compute_286 (lv_at hl 0 rfl) ?_
    replace h := g_bd h
    obtain ⟨⟨vpc_7, vti_7, vro_7⟩, q_7, h⟩ := h
    try dsimp only at h
    have hq := ct_MA_goOn l E a0 a1 a2 a3 k0 H.size vsz vmd vpc vba vbo vre vti vro vha (vpc + 2) vpc_7 vti_7 vro_7 q_7
    have hr := jrunV (p := p) (e := e) (below := below) (R := ({ frames := 1, cells := 0, slots := 0, locals := 22 })) (cells := 0) (slots := 0) (As := [.int (vpc + 2)]) (rest := []) J hJ hA hZ hP hD hS hq [0] rfl (by decide) gl_MA_81 gi_MA_goOn gsel_MA_goOn gini_MA gc_MA_goOn hd_MA_goOn ⟨rfl, rfl, Nat.le_of_ble_eq_true rfl, Nat.le_of_ble_eq_true rfl⟩ rfl rfl hl.1 rfl rfl (Nat.le_of_ble_eq_true rfl) d_MA_compute_288 ⟨Nat.zero_le _, Nat.zero_le _⟩
    clear hq
    refine jk_v hr hA hP hD hS [0] [1] (WR := [(a2, .inl (E.2.1 0, 8, .inl (upd vreg p2.toNatClampNeg (vreg p3.toNatClampNeg))))]) rfl rfl (by decide) (by decide) [1, 0] (WF := [(a0, .inr (0, [.ref a1, .ref a2, .ref a3, .ref k0, .int vsz, .int vmd, .int vpc_7, .int vba, .int vbo, .int vre, .int vti_7, .int vro_7, .int vha])), (a2, .inl (E.2.1 0, 8, .inl (upd vreg p2.toNatClampNeg (vreg p3.toNatClampNeg))))]) rfl (by decide) ?_
    clear hP hD hS
    intro H locs hP hD hS
    clear hr
    have h := Option.some.inj h
    have e_0 := (Prod.mk.inj h).1
    have h := (Prod.mk.inj h).2
    have e_1 := (Prod.mk.inj h).1
    have h := (Prod.mk.inj h).2
    have e_2 := (Prod.mk.inj h).1
    have h := (Prod.mk.inj h).2
    rw [← e_0, ← e_1, ← e_2, ← h]
    exact jr_v J hS hP hD d_MA_compute_291
  replace h := g_f c_4 h
  by_cases c_8 : (p1) = 7
  · replace h := g_t c_8 h
    refine lv_tableIn (off := 101) (tgt := 110) J.1 J.2.1 d_MA_compute_9 (by rw [c_8]; decide) (by rw [c_8]; decide) (by rw [c_8]; rfl) (by decide) ?_
    refine lv_aload_n J.1 J.2.1 d_MA_compute_110 rfl (lv_at hl 1 rfl) ?_
    refine jg J hJ hP 0 rfl rfl i_MA 1 (by decide) gf_MA_15 rfl d_MA_compute_111 ?_
    refine lv_iload_n J.1 J.2.1 d_MA_compute_114 rfl (lv_at hl 3 rfl) ?_
    refine lv_aload_n J.1 J.2.1 d_MA_compute_115 rfl (lv_at hl 1 rfl) ?_
    refine jg J hJ hP 0 rfl rfl i_MA 1 (by decide) gf_MA_15 rfl d_MA_compute_116 ?_
    refine lv_iload_n J.1 J.2.1 d_MA_compute_119 rfl (lv_at hl 3 rfl) ?_
    replace h := g_ck h
    obtain ⟨k_9, h⟩ := h
    refine jai J hJ hP 1 rfl k_9 d_MA_compute_120 ?_
    refine lv_aload_n J.1 J.2.1 d_MA_compute_121 rfl (lv_at hl 1 rfl) ?_
    refine jg J hJ hP 0 rfl rfl i_MA 1 (by decide) gf_MA_15 rfl d_MA_compute_122 ?_
    refine lv_iload_n J.1 J.2.1 d_MA_compute_125 rfl (lv_at hl 4 rfl) ?_
    replace h := g_ck h
    obtain ⟨k_10, h⟩ := h
    refine jai J hJ hP 1 rfl k_10 d_MA_compute_126 ?_
    refine lv_iadd J.1 J.2.1 d_MA_compute_127 ?_
    refine lv_ldc (v := 65535) J.1 J.2.1 J.2.2.2.2.1 (J.2.2.2.2.2.1 _ gk_MA_70) d_MA_compute_128 ?_
    refine lv_iand J.1 J.2.1 d_MA_compute_130 ?_
    replace h := g_ck h
    obtain ⟨k_11, h⟩ := h
    refine jsi J hJ hP hD hS 1 rfl k_11 d_MA_compute_131 (WS' := [(a0, .inr (0, [.ref a1, .ref a2, .ref a3, .ref k0, .int vsz, .int vmd, .int vpc, .int vba, .int vbo, .int vre, .int vti, .int vro, .int vha])), (a2, .inl (E.2.1 0, 8, .inl (upd vreg p2.toNatClampNeg (((vreg p2.toNatClampNeg) + (vreg p3.toNatClampNeg)) &&& 65535))))]) rfl ?_
    clear hP hD hS
    intro H locs hP hD hS
    refine lv_goto (tgt := 285) J.1 J.2.1 d_MA_compute_132 (by decide) ?_
    refine lv_aload_n J.1 J.2.1 d_MA_compute_285 rfl (lv_at hl 1 rfl) ?_
    refine lv_iload J.1 J.2.1 d_MA_compute_286 (lv_at hl 0 rfl) ?_
    replace h := g_bd h
    obtain ⟨⟨vpc_12, vti_12, vro_12⟩, q_12, h⟩ := h
    try dsimp only at h
    have hq := ct_MA_goOn l E a0 a1 a2 a3 k0 H.size vsz vmd vpc vba vbo vre vti vro vha (vpc + 2) vpc_12 vti_12 vro_12 q_12
    have hr := jrunV (p := p) (e := e) (below := below) (R := ({ frames := 1, cells := 0, slots := 0, locals := 22 })) (cells := 0) (slots := 0) (As := [.int (vpc + 2)]) (rest := []) J hJ hA hZ hP hD hS hq [0] rfl (by decide) gl_MA_81 gi_MA_goOn gsel_MA_goOn gini_MA gc_MA_goOn hd_MA_goOn ⟨rfl, rfl, Nat.le_of_ble_eq_true rfl, Nat.le_of_ble_eq_true rfl⟩ rfl rfl hl.1 rfl rfl (Nat.le_of_ble_eq_true rfl) d_MA_compute_288 ⟨Nat.zero_le _, Nat.zero_le _⟩
    clear hq
    refine jk_v hr hA hP hD hS [0] [1] (WR := [(a2, .inl (E.2.1 0, 8, .inl (upd vreg p2.toNatClampNeg (((vreg p2.toNatClampNeg) + (vreg p3.toNatClampNeg)) &&& 65535))))]) rfl rfl (by decide) (by decide) [1, 0] (WF := [(a0, .inr (0, [.ref a1, .ref a2, .ref a3, .ref k0, .int vsz, .int vmd, .int vpc_12, .int vba, .int vbo, .int vre, .int vti_12, .int vro_12, .int vha])), (a2, .inl (E.2.1 0, 8, .inl (upd vreg p2.toNatClampNeg (((vreg p2.toNatClampNeg) + (vreg p3.toNatClampNeg)) &&& 65535))))]) rfl (by decide) ?_
    clear hP hD hS
    intro H locs hP hD hS
    clear hr
    have h := Option.some.inj h
    have e_0 := (Prod.mk.inj h).1
    have h := (Prod.mk.inj h).2
    have e_1 := (Prod.mk.inj h).1
    have h := (Prod.mk.inj h).2
    have e_2 := (Prod.mk.inj h).1
    have h := (Prod.mk.inj h).2
    rw [← e_0, ← e_1, ← e_2, ← h]
    exact jr_v J hS hP hD d_MA_compute_291
  replace h := g_f c_8 h
  by_cases c_13 : (p1) = 8
  · replace h := g_t c_13 h
    refine lv_tableIn (off := 126) (tgt := 135) J.1 J.2.1 d_MA_compute_9 (by rw [c_13]; decide) (by rw [c_13]; decide) (by rw [c_13]; rfl) (by decide) ?_
    refine lv_aload_n J.1 J.2.1 d_MA_compute_135 rfl (lv_at hl 1 rfl) ?_
    refine jg J hJ hP 0 rfl rfl i_MA 1 (by decide) gf_MA_15 rfl d_MA_compute_136 ?_
    refine lv_iload_n J.1 J.2.1 d_MA_compute_139 rfl (lv_at hl 3 rfl) ?_
    refine lv_aload_n J.1 J.2.1 d_MA_compute_140 rfl (lv_at hl 1 rfl) ?_
    refine jg J hJ hP 0 rfl rfl i_MA 1 (by decide) gf_MA_15 rfl d_MA_compute_141 ?_
    refine lv_iload_n J.1 J.2.1 d_MA_compute_144 rfl (lv_at hl 3 rfl) ?_
    replace h := g_ck h
    obtain ⟨k_14, h⟩ := h
    refine jai J hJ hP 1 rfl k_14 d_MA_compute_145 ?_
    refine lv_aload_n J.1 J.2.1 d_MA_compute_146 rfl (lv_at hl 1 rfl) ?_
    refine jg J hJ hP 0 rfl rfl i_MA 1 (by decide) gf_MA_15 rfl d_MA_compute_147 ?_
    refine lv_iload_n J.1 J.2.1 d_MA_compute_150 rfl (lv_at hl 4 rfl) ?_
    replace h := g_ck h
    obtain ⟨k_15, h⟩ := h
    refine jai J hJ hP 1 rfl k_15 d_MA_compute_151 ?_
    refine lv_isub J.1 J.2.1 d_MA_compute_152 ?_
    refine lv_ldc (v := 65535) J.1 J.2.1 J.2.2.2.2.1 (J.2.2.2.2.2.1 _ gk_MA_70) d_MA_compute_153 ?_
    refine lv_iand J.1 J.2.1 d_MA_compute_155 ?_
    replace h := g_ck h
    obtain ⟨k_16, h⟩ := h
    refine jsi J hJ hP hD hS 1 rfl k_16 d_MA_compute_156 (WS' := [(a0, .inr (0, [.ref a1, .ref a2, .ref a3, .ref k0, .int vsz, .int vmd, .int vpc, .int vba, .int vbo, .int vre, .int vti, .int vro, .int vha])), (a2, .inl (E.2.1 0, 8, .inl (upd vreg p2.toNatClampNeg (((vreg p2.toNatClampNeg) - (vreg p3.toNatClampNeg)) &&& 65535))))]) rfl ?_
    clear hP hD hS
    intro H locs hP hD hS
    refine lv_goto (tgt := 285) J.1 J.2.1 d_MA_compute_157 (by decide) ?_
    refine lv_aload_n J.1 J.2.1 d_MA_compute_285 rfl (lv_at hl 1 rfl) ?_
    refine lv_iload J.1 J.2.1 d_MA_compute_286 (lv_at hl 0 rfl) ?_
    replace h := g_bd h
    obtain ⟨⟨vpc_17, vti_17, vro_17⟩, q_17, h⟩ := h
    try dsimp only at h
    have hq := ct_MA_goOn l E a0 a1 a2 a3 k0 H.size vsz vmd vpc vba vbo vre vti vro vha (vpc + 2) vpc_17 vti_17 vro_17 q_17
    have hr := jrunV (p := p) (e := e) (below := below) (R := ({ frames := 1, cells := 0, slots := 0, locals := 22 })) (cells := 0) (slots := 0) (As := [.int (vpc + 2)]) (rest := []) J hJ hA hZ hP hD hS hq [0] rfl (by decide) gl_MA_81 gi_MA_goOn gsel_MA_goOn gini_MA gc_MA_goOn hd_MA_goOn ⟨rfl, rfl, Nat.le_of_ble_eq_true rfl, Nat.le_of_ble_eq_true rfl⟩ rfl rfl hl.1 rfl rfl (Nat.le_of_ble_eq_true rfl) d_MA_compute_288 ⟨Nat.zero_le _, Nat.zero_le _⟩
    clear hq
    refine jk_v hr hA hP hD hS [0] [1] (WR := [(a2, .inl (E.2.1 0, 8, .inl (upd vreg p2.toNatClampNeg (((vreg p2.toNatClampNeg) - (vreg p3.toNatClampNeg)) &&& 65535))))]) rfl rfl (by decide) (by decide) [1, 0] (WF := [(a0, .inr (0, [.ref a1, .ref a2, .ref a3, .ref k0, .int vsz, .int vmd, .int vpc_17, .int vba, .int vbo, .int vre, .int vti_17, .int vro_17, .int vha])), (a2, .inl (E.2.1 0, 8, .inl (upd vreg p2.toNatClampNeg (((vreg p2.toNatClampNeg) - (vreg p3.toNatClampNeg)) &&& 65535))))]) rfl (by decide) ?_
    clear hP hD hS
    intro H locs hP hD hS
    clear hr
    have h := Option.some.inj h
    have e_0 := (Prod.mk.inj h).1
    have h := (Prod.mk.inj h).2
    have e_1 := (Prod.mk.inj h).1
    have h := (Prod.mk.inj h).2
    have e_2 := (Prod.mk.inj h).1
    have h := (Prod.mk.inj h).2
    rw [← e_0, ← e_1, ← e_2, ← h]
    exact jr_v J hS hP hD d_MA_compute_291
  replace h := g_f c_13 h
  by_cases c_18 : (p1) = 9
  · replace h := g_t c_18 h
    refine lv_tableIn (off := 151) (tgt := 160) J.1 J.2.1 d_MA_compute_9 (by rw [c_18]; decide) (by rw [c_18]; decide) (by rw [c_18]; rfl) (by decide) ?_
    refine lv_aload_n J.1 J.2.1 d_MA_compute_160 rfl (lv_at hl 1 rfl) ?_
    refine jg J hJ hP 0 rfl rfl i_MA 1 (by decide) gf_MA_15 rfl d_MA_compute_161 ?_
    refine lv_iload_n J.1 J.2.1 d_MA_compute_164 rfl (lv_at hl 3 rfl) ?_
    refine lv_aload_n J.1 J.2.1 d_MA_compute_165 rfl (lv_at hl 1 rfl) ?_
    refine jg J hJ hP 0 rfl rfl i_MA 1 (by decide) gf_MA_15 rfl d_MA_compute_166 ?_
    refine lv_iload_n J.1 J.2.1 d_MA_compute_169 rfl (lv_at hl 3 rfl) ?_
    replace h := g_ck h
    obtain ⟨k_19, h⟩ := h
    refine jai J hJ hP 1 rfl k_19 d_MA_compute_170 ?_
    refine lv_aload_n J.1 J.2.1 d_MA_compute_171 rfl (lv_at hl 1 rfl) ?_
    refine jg J hJ hP 0 rfl rfl i_MA 1 (by decide) gf_MA_15 rfl d_MA_compute_172 ?_
    refine lv_iload_n J.1 J.2.1 d_MA_compute_175 rfl (lv_at hl 4 rfl) ?_
    replace h := g_ck h
    obtain ⟨k_20, h⟩ := h
    refine jai J hJ hP 1 rfl k_20 d_MA_compute_176 ?_
    refine lv_iand J.1 J.2.1 d_MA_compute_177 ?_
    replace h := g_ck h
    obtain ⟨k_21, h⟩ := h
    refine jsi J hJ hP hD hS 1 rfl k_21 d_MA_compute_178 (WS' := [(a0, .inr (0, [.ref a1, .ref a2, .ref a3, .ref k0, .int vsz, .int vmd, .int vpc, .int vba, .int vbo, .int vre, .int vti, .int vro, .int vha])), (a2, .inl (E.2.1 0, 8, .inl (upd vreg p2.toNatClampNeg ((vreg p2.toNatClampNeg) &&& (vreg p3.toNatClampNeg)))))]) rfl ?_
    clear hP hD hS
    intro H locs hP hD hS
    refine lv_goto (tgt := 285) J.1 J.2.1 d_MA_compute_179 (by decide) ?_
    refine lv_aload_n J.1 J.2.1 d_MA_compute_285 rfl (lv_at hl 1 rfl) ?_
    refine lv_iload J.1 J.2.1 d_MA_compute_286 (lv_at hl 0 rfl) ?_
    replace h := g_bd h
    obtain ⟨⟨vpc_22, vti_22, vro_22⟩, q_22, h⟩ := h
    try dsimp only at h
    have hq := ct_MA_goOn l E a0 a1 a2 a3 k0 H.size vsz vmd vpc vba vbo vre vti vro vha (vpc + 2) vpc_22 vti_22 vro_22 q_22
    have hr := jrunV (p := p) (e := e) (below := below) (R := ({ frames := 1, cells := 0, slots := 0, locals := 22 })) (cells := 0) (slots := 0) (As := [.int (vpc + 2)]) (rest := []) J hJ hA hZ hP hD hS hq [0] rfl (by decide) gl_MA_81 gi_MA_goOn gsel_MA_goOn gini_MA gc_MA_goOn hd_MA_goOn ⟨rfl, rfl, Nat.le_of_ble_eq_true rfl, Nat.le_of_ble_eq_true rfl⟩ rfl rfl hl.1 rfl rfl (Nat.le_of_ble_eq_true rfl) d_MA_compute_288 ⟨Nat.zero_le _, Nat.zero_le _⟩
    clear hq
    refine jk_v hr hA hP hD hS [0] [1] (WR := [(a2, .inl (E.2.1 0, 8, .inl (upd vreg p2.toNatClampNeg ((vreg p2.toNatClampNeg) &&& (vreg p3.toNatClampNeg)))))]) rfl rfl (by decide) (by decide) [1, 0] (WF := [(a0, .inr (0, [.ref a1, .ref a2, .ref a3, .ref k0, .int vsz, .int vmd, .int vpc_22, .int vba, .int vbo, .int vre, .int vti_22, .int vro_22, .int vha])), (a2, .inl (E.2.1 0, 8, .inl (upd vreg p2.toNatClampNeg ((vreg p2.toNatClampNeg) &&& (vreg p3.toNatClampNeg)))))]) rfl (by decide) ?_
    clear hP hD hS
    intro H locs hP hD hS
    clear hr
    have h := Option.some.inj h
    have e_0 := (Prod.mk.inj h).1
    have h := (Prod.mk.inj h).2
    have e_1 := (Prod.mk.inj h).1
    have h := (Prod.mk.inj h).2
    have e_2 := (Prod.mk.inj h).1
    have h := (Prod.mk.inj h).2
    rw [← e_0, ← e_1, ← e_2, ← h]
    exact jr_v J hS hP hD d_MA_compute_291
  replace h := g_f c_18 h
  by_cases c_23 : (p1) = 10
  · replace h := g_t c_23 h
    refine lv_tableIn (off := 173) (tgt := 182) J.1 J.2.1 d_MA_compute_9 (by rw [c_23]; decide) (by rw [c_23]; decide) (by rw [c_23]; rfl) (by decide) ?_
    refine lv_aload_n J.1 J.2.1 d_MA_compute_182 rfl (lv_at hl 1 rfl) ?_
    refine jg J hJ hP 0 rfl rfl i_MA 1 (by decide) gf_MA_15 rfl d_MA_compute_183 ?_
    refine lv_iload_n J.1 J.2.1 d_MA_compute_186 rfl (lv_at hl 3 rfl) ?_
    refine lv_aload_n J.1 J.2.1 d_MA_compute_187 rfl (lv_at hl 1 rfl) ?_
    refine jg J hJ hP 0 rfl rfl i_MA 1 (by decide) gf_MA_15 rfl d_MA_compute_188 ?_
    refine lv_iload_n J.1 J.2.1 d_MA_compute_191 rfl (lv_at hl 3 rfl) ?_
    replace h := g_ck h
    obtain ⟨k_24, h⟩ := h
    refine jai J hJ hP 1 rfl k_24 d_MA_compute_192 ?_
    refine lv_aload_n J.1 J.2.1 d_MA_compute_193 rfl (lv_at hl 1 rfl) ?_
    refine jg J hJ hP 0 rfl rfl i_MA 1 (by decide) gf_MA_15 rfl d_MA_compute_194 ?_
    refine lv_iload_n J.1 J.2.1 d_MA_compute_197 rfl (lv_at hl 4 rfl) ?_
    replace h := g_ck h
    obtain ⟨k_25, h⟩ := h
    refine jai J hJ hP 1 rfl k_25 d_MA_compute_198 ?_
    refine lv_icmp_ge (tgt := 206) J.1 J.2.1 d_MA_compute_199 (by decide) (fun c_26 => ?_) (fun c_26 => ?_)
    · replace h := g_t c_26 h
      refine lv_iconst (v := 0) J.1 J.2.1 d_MA_compute_206 (by decide) ?_
      replace h := g_ck h
      obtain ⟨k_27, h⟩ := h
      refine jsi J hJ hP hD hS 1 rfl k_27 d_MA_compute_207 (WS' := [(a0, .inr (0, [.ref a1, .ref a2, .ref a3, .ref k0, .int vsz, .int vmd, .int vpc, .int vba, .int vbo, .int vre, .int vti, .int vro, .int vha])), (a2, .inl (E.2.1 0, 8, .inl (upd vreg p2.toNatClampNeg 0)))]) rfl ?_
      clear hP hD hS
      intro H locs hP hD hS
      refine lv_goto (tgt := 285) J.1 J.2.1 d_MA_compute_208 (by decide) ?_
      refine lv_aload_n J.1 J.2.1 d_MA_compute_285 rfl (lv_at hl 1 rfl) ?_
      refine lv_iload J.1 J.2.1 d_MA_compute_286 (lv_at hl 0 rfl) ?_
      replace h := g_bd h
      obtain ⟨⟨vpc_28, vti_28, vro_28⟩, q_28, h⟩ := h
      try dsimp only at h
      have hq := ct_MA_goOn l E a0 a1 a2 a3 k0 H.size vsz vmd vpc vba vbo vre vti vro vha (vpc + 2) vpc_28 vti_28 vro_28 q_28
      have hr := jrunV (p := p) (e := e) (below := below) (R := ({ frames := 1, cells := 0, slots := 0, locals := 22 })) (cells := 0) (slots := 0) (As := [.int (vpc + 2)]) (rest := []) J hJ hA hZ hP hD hS hq [0] rfl (by decide) gl_MA_81 gi_MA_goOn gsel_MA_goOn gini_MA gc_MA_goOn hd_MA_goOn ⟨rfl, rfl, Nat.le_of_ble_eq_true rfl, Nat.le_of_ble_eq_true rfl⟩ rfl rfl hl.1 rfl rfl (Nat.le_of_ble_eq_true rfl) d_MA_compute_288 ⟨Nat.zero_le _, Nat.zero_le _⟩
      clear hq
      refine jk_v hr hA hP hD hS [0] [1] (WR := [(a2, .inl (E.2.1 0, 8, .inl (upd vreg p2.toNatClampNeg 0)))]) rfl rfl (by decide) (by decide) [1, 0] (WF := [(a0, .inr (0, [.ref a1, .ref a2, .ref a3, .ref k0, .int vsz, .int vmd, .int vpc_28, .int vba, .int vbo, .int vre, .int vti_28, .int vro_28, .int vha])), (a2, .inl (E.2.1 0, 8, .inl (upd vreg p2.toNatClampNeg 0)))]) rfl (by decide) ?_
      clear hP hD hS
      intro H locs hP hD hS
      clear hr
      have h := Option.some.inj h
      have e_0 := (Prod.mk.inj h).1
      have h := (Prod.mk.inj h).2
      have e_1 := (Prod.mk.inj h).1
      have h := (Prod.mk.inj h).2
      have e_2 := (Prod.mk.inj h).1
      have h := (Prod.mk.inj h).2
      rw [← e_0, ← e_1, ← e_2, ← h]
      exact jr_v J hS hP hD d_MA_compute_291
    · replace h := g_f c_26 h
      refine lv_iconst (v := 1) J.1 J.2.1 d_MA_compute_202 (by decide) ?_
      refine lv_goto (tgt := 207) J.1 J.2.1 d_MA_compute_203 (by decide) ?_
      replace h := g_ck h
      obtain ⟨k_29, h⟩ := h
      refine jsi J hJ hP hD hS 1 rfl k_29 d_MA_compute_207 (WS' := [(a0, .inr (0, [.ref a1, .ref a2, .ref a3, .ref k0, .int vsz, .int vmd, .int vpc, .int vba, .int vbo, .int vre, .int vti, .int vro, .int vha])), (a2, .inl (E.2.1 0, 8, .inl (upd vreg p2.toNatClampNeg 1)))]) rfl ?_
      clear hP hD hS
      intro H locs hP hD hS
      refine lv_goto (tgt := 285) J.1 J.2.1 d_MA_compute_208 (by decide) ?_
      refine lv_aload_n J.1 J.2.1 d_MA_compute_285 rfl (lv_at hl 1 rfl) ?_
      refine lv_iload J.1 J.2.1 d_MA_compute_286 (lv_at hl 0 rfl) ?_
      replace h := g_bd h
      obtain ⟨⟨vpc_30, vti_30, vro_30⟩, q_30, h⟩ := h
      try dsimp only at h
      have hq := ct_MA_goOn l E a0 a1 a2 a3 k0 H.size vsz vmd vpc vba vbo vre vti vro vha (vpc + 2) vpc_30 vti_30 vro_30 q_30
      have hr := jrunV (p := p) (e := e) (below := below) (R := ({ frames := 1, cells := 0, slots := 0, locals := 22 })) (cells := 0) (slots := 0) (As := [.int (vpc + 2)]) (rest := []) J hJ hA hZ hP hD hS hq [0] rfl (by decide) gl_MA_81 gi_MA_goOn gsel_MA_goOn gini_MA gc_MA_goOn hd_MA_goOn ⟨rfl, rfl, Nat.le_of_ble_eq_true rfl, Nat.le_of_ble_eq_true rfl⟩ rfl rfl hl.1 rfl rfl (Nat.le_of_ble_eq_true rfl) d_MA_compute_288 ⟨Nat.zero_le _, Nat.zero_le _⟩
      clear hq
      refine jk_v hr hA hP hD hS [0] [1] (WR := [(a2, .inl (E.2.1 0, 8, .inl (upd vreg p2.toNatClampNeg 1)))]) rfl rfl (by decide) (by decide) [1, 0] (WF := [(a0, .inr (0, [.ref a1, .ref a2, .ref a3, .ref k0, .int vsz, .int vmd, .int vpc_30, .int vba, .int vbo, .int vre, .int vti_30, .int vro_30, .int vha])), (a2, .inl (E.2.1 0, 8, .inl (upd vreg p2.toNatClampNeg 1)))]) rfl (by decide) ?_
      clear hP hD hS
      intro H locs hP hD hS
      clear hr
      have h := Option.some.inj h
      have e_0 := (Prod.mk.inj h).1
      have h := (Prod.mk.inj h).2
      have e_1 := (Prod.mk.inj h).1
      have h := (Prod.mk.inj h).2
      have e_2 := (Prod.mk.inj h).1
      have h := (Prod.mk.inj h).2
      rw [← e_0, ← e_1, ← e_2, ← h]
      exact jr_v J hS hP hD d_MA_compute_291
  replace h := g_f c_23 h
  by_cases c_31 : (p1) = 11
  · replace h := g_t c_31 h
    refine lv_tableIn (off := 202) (tgt := 211) J.1 J.2.1 d_MA_compute_9 (by rw [c_31]; decide) (by rw [c_31]; decide) (by rw [c_31]; rfl) (by decide) ?_
    refine lv_aload_n J.1 J.2.1 d_MA_compute_211 rfl (lv_at hl 1 rfl) ?_
    refine jg J hJ hP 0 rfl rfl i_MA 1 (by decide) gf_MA_15 rfl d_MA_compute_212 ?_
    refine lv_iload_n J.1 J.2.1 d_MA_compute_215 rfl (lv_at hl 3 rfl) ?_
    refine lv_aload_n J.1 J.2.1 d_MA_compute_216 rfl (lv_at hl 1 rfl) ?_
    refine jg J hJ hP 0 rfl rfl i_MA 1 (by decide) gf_MA_15 rfl d_MA_compute_217 ?_
    refine lv_iload_n J.1 J.2.1 d_MA_compute_220 rfl (lv_at hl 3 rfl) ?_
    replace h := g_ck h
    obtain ⟨k_32, h⟩ := h
    refine jai J hJ hP 1 rfl k_32 d_MA_compute_221 ?_
    refine lv_iload J.1 J.2.1 d_MA_compute_222 (lv_at hl 5 rfl) ?_
    replace h := g_bd h
    obtain ⟨r_33, q_33, h⟩ := h
    have hq := ct_MA_shifted l E  s.heap.size  (vreg p2.toNatClampNeg) p4 r_33 q_33
    have hr := jrunS (p := p) (e := e) (below := below) (R := ({ frames := 1, cells := 0, slots := 0, locals := 22 })) (cells := 0) (slots := 0) (As := [.int (vreg p2.toNatClampNeg), .int p4]) (rest := [.int p2, .ref a2]) J hJ hA hZ hP hD hS hq [] rfl (by decide) gl_MA_85 gs_MA_shifted gini_MA gc_MA_shifted hd_MA_shifted ⟨rfl, rfl, Nat.le_of_ble_eq_true rfl, Nat.le_of_ble_eq_true rfl⟩ hl.1 rfl rfl (Nat.le_of_ble_eq_true rfl) d_MA_compute_224 ⟨Nat.zero_le _, Nat.zero_le _⟩
    clear hq
    refine jk_i hr hA hP hD hS [] [0, 1] (WR := [(a0, .inr (0, [.ref a1, .ref a2, .ref a3, .ref k0, .int vsz, .int vmd, .int vpc, .int vba, .int vbo, .int vre, .int vti, .int vro, .int vha])), (a2, .inl (E.2.1 0, 8, .inl vreg))]) rfl rfl (by decide) (by decide) [0, 1] (WF := [(a0, .inr (0, [.ref a1, .ref a2, .ref a3, .ref k0, .int vsz, .int vmd, .int vpc, .int vba, .int vbo, .int vre, .int vti, .int vro, .int vha])), (a2, .inl (E.2.1 0, 8, .inl vreg))]) rfl (by decide) ?_
    clear hP hD hS
    intro H locs hP hD hS
    clear hr
    replace h := g_ck h
    obtain ⟨k_34, h⟩ := h
    refine jsi J hJ hP hD hS 1 rfl k_34 d_MA_compute_227 (WS' := [(a0, .inr (0, [.ref a1, .ref a2, .ref a3, .ref k0, .int vsz, .int vmd, .int vpc, .int vba, .int vbo, .int vre, .int vti, .int vro, .int vha])), (a2, .inl (E.2.1 0, 8, .inl (upd vreg p2.toNatClampNeg r_33)))]) rfl ?_
    clear hP hD hS
    intro H locs hP hD hS
    refine lv_goto (tgt := 285) J.1 J.2.1 d_MA_compute_228 (by decide) ?_
    refine lv_aload_n J.1 J.2.1 d_MA_compute_285 rfl (lv_at hl 1 rfl) ?_
    refine lv_iload J.1 J.2.1 d_MA_compute_286 (lv_at hl 0 rfl) ?_
    replace h := g_bd h
    obtain ⟨⟨vpc_35, vti_35, vro_35⟩, q_35, h⟩ := h
    try dsimp only at h
    have hq := ct_MA_goOn l E a0 a1 a2 a3 k0 H.size vsz vmd vpc vba vbo vre vti vro vha (vpc + 2) vpc_35 vti_35 vro_35 q_35
    have hr := jrunV (p := p) (e := e) (below := below) (R := ({ frames := 1, cells := 0, slots := 0, locals := 22 })) (cells := 0) (slots := 0) (As := [.int (vpc + 2)]) (rest := []) J hJ hA hZ hP hD hS hq [0] rfl (by decide) gl_MA_81 gi_MA_goOn gsel_MA_goOn gini_MA gc_MA_goOn hd_MA_goOn ⟨rfl, rfl, Nat.le_of_ble_eq_true rfl, Nat.le_of_ble_eq_true rfl⟩ rfl rfl hl.1 rfl rfl (Nat.le_of_ble_eq_true rfl) d_MA_compute_288 ⟨Nat.zero_le _, Nat.zero_le _⟩
    clear hq
    refine jk_v hr hA hP hD hS [0] [1] (WR := [(a2, .inl (E.2.1 0, 8, .inl (upd vreg p2.toNatClampNeg r_33)))]) rfl rfl (by decide) (by decide) [1, 0] (WF := [(a0, .inr (0, [.ref a1, .ref a2, .ref a3, .ref k0, .int vsz, .int vmd, .int vpc_35, .int vba, .int vbo, .int vre, .int vti_35, .int vro_35, .int vha])), (a2, .inl (E.2.1 0, 8, .inl (upd vreg p2.toNatClampNeg r_33)))]) rfl (by decide) ?_
    clear hP hD hS
    intro H locs hP hD hS
    clear hr
    have h := Option.some.inj h
    have e_0 := (Prod.mk.inj h).1
    have h := (Prod.mk.inj h).2
    have e_1 := (Prod.mk.inj h).1
    have h := (Prod.mk.inj h).2
    have e_2 := (Prod.mk.inj h).1
    have h := (Prod.mk.inj h).2
    rw [← e_0, ← e_1, ← e_2, ← h]
    exact jr_v J hS hP hD d_MA_compute_291
  replace h := g_f c_31 h
  by_cases c_36 : (p1) = 12
  · replace h := g_t c_36 h
    refine lv_tableIn (off := 222) (tgt := 231) J.1 J.2.1 d_MA_compute_9 (by rw [c_36]; decide) (by rw [c_36]; decide) (by rw [c_36]; rfl) (by decide) ?_
    refine lv_iload J.1 J.2.1 d_MA_compute_231 (lv_at hl 5 rfl) ?_
    refine lv_istore (lv' := [(5, .int p4), (0, .ref a0), (1, .int p1), (2, .int p2), (3, .int p3), (4, .int p4)]) J.1 J.2.1 d_MA_compute_233 hl (by decide) rfl ?_
    clear hl
    intro ls hl
    refine lv_goto (tgt := 285) J.1 J.2.1 d_MA_compute_235 (by decide) ?_
    refine lv_aload_n J.1 J.2.1 d_MA_compute_285 rfl (lv_at hl 1 rfl) ?_
    refine lv_iload J.1 J.2.1 d_MA_compute_286 (lv_at hl 0 rfl) ?_
    replace h := g_bd h
    obtain ⟨⟨vpc_37, vti_37, vro_37⟩, q_37, h⟩ := h
    try dsimp only at h
    have hq := ct_MA_goOn l E a0 a1 a2 a3 k0 s.heap.size vsz vmd vpc vba vbo vre vti vro vha p4 vpc_37 vti_37 vro_37 q_37
    have hr := jrunV (p := p) (e := e) (below := below) (R := ({ frames := 1, cells := 0, slots := 0, locals := 22 })) (cells := 0) (slots := 0) (As := [.int p4]) (rest := []) J hJ hA hZ hP hD hS hq [0] rfl (by decide) gl_MA_81 gi_MA_goOn gsel_MA_goOn gini_MA gc_MA_goOn hd_MA_goOn ⟨rfl, rfl, Nat.le_of_ble_eq_true rfl, Nat.le_of_ble_eq_true rfl⟩ rfl rfl hl.1 rfl rfl (Nat.le_of_ble_eq_true rfl) d_MA_compute_288 ⟨Nat.zero_le _, Nat.zero_le _⟩
    clear hq
    refine jk_v hr hA hP hD hS [0] [1] (WR := [(a2, .inl (E.2.1 0, 8, .inl vreg))]) rfl rfl (by decide) (by decide) [1, 0] (WF := [(a0, .inr (0, [.ref a1, .ref a2, .ref a3, .ref k0, .int vsz, .int vmd, .int vpc_37, .int vba, .int vbo, .int vre, .int vti_37, .int vro_37, .int vha])), (a2, .inl (E.2.1 0, 8, .inl vreg))]) rfl (by decide) ?_
    clear hP hD hS
    intro H locs hP hD hS
    clear hr
    have h := Option.some.inj h
    have e_0 := (Prod.mk.inj h).1
    have h := (Prod.mk.inj h).2
    have e_1 := (Prod.mk.inj h).1
    have h := (Prod.mk.inj h).2
    have e_2 := (Prod.mk.inj h).1
    have h := (Prod.mk.inj h).2
    rw [← e_0, ← e_1, ← e_2, ← h]
    exact jr_v J hS hP hD d_MA_compute_291
  replace h := g_f c_36 h
  by_cases c_38 : (p1) = 13
  · replace h := g_t c_38 h
    refine lv_tableIn (off := 229) (tgt := 238) J.1 J.2.1 d_MA_compute_9 (by rw [c_38]; decide) (by rw [c_38]; decide) (by rw [c_38]; rfl) (by decide) ?_
    refine lv_aload_n J.1 J.2.1 d_MA_compute_238 rfl (lv_at hl 1 rfl) ?_
    refine jg J hJ hP 0 rfl rfl i_MA 1 (by decide) gf_MA_15 rfl d_MA_compute_239 ?_
    refine lv_iload_n J.1 J.2.1 d_MA_compute_242 rfl (lv_at hl 3 rfl) ?_
    replace h := g_ck h
    obtain ⟨k_39, h⟩ := h
    refine jai J hJ hP 1 rfl k_39 d_MA_compute_243 ?_
    refine lv_if_ne (tgt := 252) J.1 J.2.1 d_MA_compute_244 (by decide) (fun c_40 => ?_) (fun c_40 => ?_)
    · replace h := g_f c_40 h
      refine lv_iload J.1 J.2.1 d_MA_compute_252 (lv_at hl 0 rfl) ?_
      refine lv_istore (lv' := [(5, .int (vpc + 2)), (0, .ref a0), (1, .int p1), (2, .int p2), (3, .int p3), (4, .int p4)]) J.1 J.2.1 d_MA_compute_254 hl (by decide) rfl ?_
      clear hl
      intro ls hl
      refine lv_goto (tgt := 285) J.1 J.2.1 d_MA_compute_256 (by decide) ?_
      refine lv_aload_n J.1 J.2.1 d_MA_compute_285 rfl (lv_at hl 1 rfl) ?_
      refine lv_iload J.1 J.2.1 d_MA_compute_286 (lv_at hl 0 rfl) ?_
      replace h := g_bd h
      obtain ⟨⟨vpc_41, vti_41, vro_41⟩, q_41, h⟩ := h
      try dsimp only at h
      have hq := ct_MA_goOn l E a0 a1 a2 a3 k0 s.heap.size vsz vmd vpc vba vbo vre vti vro vha (vpc + 2) vpc_41 vti_41 vro_41 q_41
      have hr := jrunV (p := p) (e := e) (below := below) (R := ({ frames := 1, cells := 0, slots := 0, locals := 22 })) (cells := 0) (slots := 0) (As := [.int (vpc + 2)]) (rest := []) J hJ hA hZ hP hD hS hq [0] rfl (by decide) gl_MA_81 gi_MA_goOn gsel_MA_goOn gini_MA gc_MA_goOn hd_MA_goOn ⟨rfl, rfl, Nat.le_of_ble_eq_true rfl, Nat.le_of_ble_eq_true rfl⟩ rfl rfl hl.1 rfl rfl (Nat.le_of_ble_eq_true rfl) d_MA_compute_288 ⟨Nat.zero_le _, Nat.zero_le _⟩
      clear hq
      refine jk_v hr hA hP hD hS [0] [1] (WR := [(a2, .inl (E.2.1 0, 8, .inl vreg))]) rfl rfl (by decide) (by decide) [1, 0] (WF := [(a0, .inr (0, [.ref a1, .ref a2, .ref a3, .ref k0, .int vsz, .int vmd, .int vpc_41, .int vba, .int vbo, .int vre, .int vti_41, .int vro_41, .int vha])), (a2, .inl (E.2.1 0, 8, .inl vreg))]) rfl (by decide) ?_
      clear hP hD hS
      intro H locs hP hD hS
      clear hr
      have h := Option.some.inj h
      have e_0 := (Prod.mk.inj h).1
      have h := (Prod.mk.inj h).2
      have e_1 := (Prod.mk.inj h).1
      have h := (Prod.mk.inj h).2
      have e_2 := (Prod.mk.inj h).1
      have h := (Prod.mk.inj h).2
      rw [← e_0, ← e_1, ← e_2, ← h]
      exact jr_v J hS hP hD d_MA_compute_291
    · replace h := g_t c_40 h
      refine lv_iload J.1 J.2.1 d_MA_compute_247 (lv_at hl 5 rfl) ?_
      refine lv_goto (tgt := 254) J.1 J.2.1 d_MA_compute_249 (by decide) ?_
      refine lv_istore (lv' := [(5, .int p4), (0, .ref a0), (1, .int p1), (2, .int p2), (3, .int p3), (4, .int p4)]) J.1 J.2.1 d_MA_compute_254 hl (by decide) rfl ?_
      clear hl
      intro ls hl
      refine lv_goto (tgt := 285) J.1 J.2.1 d_MA_compute_256 (by decide) ?_
      refine lv_aload_n J.1 J.2.1 d_MA_compute_285 rfl (lv_at hl 1 rfl) ?_
      refine lv_iload J.1 J.2.1 d_MA_compute_286 (lv_at hl 0 rfl) ?_
      replace h := g_bd h
      obtain ⟨⟨vpc_42, vti_42, vro_42⟩, q_42, h⟩ := h
      try dsimp only at h
      have hq := ct_MA_goOn l E a0 a1 a2 a3 k0 s.heap.size vsz vmd vpc vba vbo vre vti vro vha p4 vpc_42 vti_42 vro_42 q_42
      have hr := jrunV (p := p) (e := e) (below := below) (R := ({ frames := 1, cells := 0, slots := 0, locals := 22 })) (cells := 0) (slots := 0) (As := [.int p4]) (rest := []) J hJ hA hZ hP hD hS hq [0] rfl (by decide) gl_MA_81 gi_MA_goOn gsel_MA_goOn gini_MA gc_MA_goOn hd_MA_goOn ⟨rfl, rfl, Nat.le_of_ble_eq_true rfl, Nat.le_of_ble_eq_true rfl⟩ rfl rfl hl.1 rfl rfl (Nat.le_of_ble_eq_true rfl) d_MA_compute_288 ⟨Nat.zero_le _, Nat.zero_le _⟩
      clear hq
      refine jk_v hr hA hP hD hS [0] [1] (WR := [(a2, .inl (E.2.1 0, 8, .inl vreg))]) rfl rfl (by decide) (by decide) [1, 0] (WF := [(a0, .inr (0, [.ref a1, .ref a2, .ref a3, .ref k0, .int vsz, .int vmd, .int vpc_42, .int vba, .int vbo, .int vre, .int vti_42, .int vro_42, .int vha])), (a2, .inl (E.2.1 0, 8, .inl vreg))]) rfl (by decide) ?_
      clear hP hD hS
      intro H locs hP hD hS
      clear hr
      have h := Option.some.inj h
      have e_0 := (Prod.mk.inj h).1
      have h := (Prod.mk.inj h).2
      have e_1 := (Prod.mk.inj h).1
      have h := (Prod.mk.inj h).2
      have e_2 := (Prod.mk.inj h).1
      have h := (Prod.mk.inj h).2
      rw [← e_0, ← e_1, ← e_2, ← h]
      exact jr_v J hS hP hD d_MA_compute_291
  replace h := g_f c_38 h
  by_cases c_43 : (p1) = 14
  · replace h := g_t c_43 h
    refine lv_tableIn (off := 250) (tgt := 259) J.1 J.2.1 d_MA_compute_9 (by rw [c_43]; decide) (by rw [c_43]; decide) (by rw [c_43]; rfl) (by decide) ?_
    refine lv_aload_n J.1 J.2.1 d_MA_compute_259 rfl (lv_at hl 1 rfl) ?_
    refine jg J hJ hP 0 rfl rfl i_MA 1 (by decide) gf_MA_15 rfl d_MA_compute_260 ?_
    refine lv_iload_n J.1 J.2.1 d_MA_compute_263 rfl (lv_at hl 3 rfl) ?_
    replace h := g_ck h
    obtain ⟨k_44, h⟩ := h
    refine jai J hJ hP 1 rfl k_44 d_MA_compute_264 ?_
    refine lv_istore (lv' := [(5, .int (vreg p2.toNatClampNeg)), (0, .ref a0), (1, .int p1), (2, .int p2), (3, .int p3), (4, .int p4)]) J.1 J.2.1 d_MA_compute_265 hl (by decide) rfl ?_
    clear hl
    intro ls hl
    refine lv_goto (tgt := 285) J.1 J.2.1 d_MA_compute_267 (by decide) ?_
    refine lv_aload_n J.1 J.2.1 d_MA_compute_285 rfl (lv_at hl 1 rfl) ?_
    refine lv_iload J.1 J.2.1 d_MA_compute_286 (lv_at hl 0 rfl) ?_
    replace h := g_bd h
    obtain ⟨⟨vpc_45, vti_45, vro_45⟩, q_45, h⟩ := h
    try dsimp only at h
    have hq := ct_MA_goOn l E a0 a1 a2 a3 k0 s.heap.size vsz vmd vpc vba vbo vre vti vro vha (vreg p2.toNatClampNeg) vpc_45 vti_45 vro_45 q_45
    have hr := jrunV (p := p) (e := e) (below := below) (R := ({ frames := 1, cells := 0, slots := 0, locals := 22 })) (cells := 0) (slots := 0) (As := [.int (vreg p2.toNatClampNeg)]) (rest := []) J hJ hA hZ hP hD hS hq [0] rfl (by decide) gl_MA_81 gi_MA_goOn gsel_MA_goOn gini_MA gc_MA_goOn hd_MA_goOn ⟨rfl, rfl, Nat.le_of_ble_eq_true rfl, Nat.le_of_ble_eq_true rfl⟩ rfl rfl hl.1 rfl rfl (Nat.le_of_ble_eq_true rfl) d_MA_compute_288 ⟨Nat.zero_le _, Nat.zero_le _⟩
    clear hq
    refine jk_v hr hA hP hD hS [0] [1] (WR := [(a2, .inl (E.2.1 0, 8, .inl vreg))]) rfl rfl (by decide) (by decide) [1, 0] (WF := [(a0, .inr (0, [.ref a1, .ref a2, .ref a3, .ref k0, .int vsz, .int vmd, .int vpc_45, .int vba, .int vbo, .int vre, .int vti_45, .int vro_45, .int vha])), (a2, .inl (E.2.1 0, 8, .inl vreg))]) rfl (by decide) ?_
    clear hP hD hS
    intro H locs hP hD hS
    clear hr
    have h := Option.some.inj h
    have e_0 := (Prod.mk.inj h).1
    have h := (Prod.mk.inj h).2
    have e_1 := (Prod.mk.inj h).1
    have h := (Prod.mk.inj h).2
    have e_2 := (Prod.mk.inj h).1
    have h := (Prod.mk.inj h).2
    rw [← e_0, ← e_1, ← e_2, ← h]
    exact jr_v J hS hP hD d_MA_compute_291
  replace h := g_f c_43 h
  by_cases c_46 : (p1) = 15
  · replace h := g_t c_46 h
    refine lv_tableIn (off := 261) (tgt := 270) J.1 J.2.1 d_MA_compute_9 (by rw [c_46]; decide) (by rw [c_46]; decide) (by rw [c_46]; rfl) (by decide) ?_
    refine lv_aload_n J.1 J.2.1 d_MA_compute_270 rfl (lv_at hl 1 rfl) ?_
    refine jg J hJ hP 0 rfl rfl i_MA 1 (by decide) gf_MA_15 rfl d_MA_compute_271 ?_
    refine lv_iload_n J.1 J.2.1 d_MA_compute_274 rfl (lv_at hl 3 rfl) ?_
    refine lv_iload J.1 J.2.1 d_MA_compute_275 (lv_at hl 0 rfl) ?_
    replace h := g_ck h
    obtain ⟨k_47, h⟩ := h
    refine jsi J hJ hP hD hS 1 rfl k_47 d_MA_compute_277 (WS' := [(a0, .inr (0, [.ref a1, .ref a2, .ref a3, .ref k0, .int vsz, .int vmd, .int vpc, .int vba, .int vbo, .int vre, .int vti, .int vro, .int vha])), (a2, .inl (E.2.1 0, 8, .inl (upd vreg p2.toNatClampNeg (vpc + 2))))]) rfl ?_
    clear hP hD hS
    intro H locs hP hD hS
    refine lv_iload J.1 J.2.1 d_MA_compute_278 (lv_at hl 5 rfl) ?_
    refine lv_istore (lv' := [(5, .int p4), (0, .ref a0), (1, .int p1), (2, .int p2), (3, .int p3), (4, .int p4)]) J.1 J.2.1 d_MA_compute_280 hl (by decide) rfl ?_
    clear hl
    intro ls hl
    refine lv_goto (tgt := 285) J.1 J.2.1 d_MA_compute_282 (by decide) ?_
    refine lv_aload_n J.1 J.2.1 d_MA_compute_285 rfl (lv_at hl 1 rfl) ?_
    refine lv_iload J.1 J.2.1 d_MA_compute_286 (lv_at hl 0 rfl) ?_
    replace h := g_bd h
    obtain ⟨⟨vpc_48, vti_48, vro_48⟩, q_48, h⟩ := h
    try dsimp only at h
    have hq := ct_MA_goOn l E a0 a1 a2 a3 k0 H.size vsz vmd vpc vba vbo vre vti vro vha p4 vpc_48 vti_48 vro_48 q_48
    have hr := jrunV (p := p) (e := e) (below := below) (R := ({ frames := 1, cells := 0, slots := 0, locals := 22 })) (cells := 0) (slots := 0) (As := [.int p4]) (rest := []) J hJ hA hZ hP hD hS hq [0] rfl (by decide) gl_MA_81 gi_MA_goOn gsel_MA_goOn gini_MA gc_MA_goOn hd_MA_goOn ⟨rfl, rfl, Nat.le_of_ble_eq_true rfl, Nat.le_of_ble_eq_true rfl⟩ rfl rfl hl.1 rfl rfl (Nat.le_of_ble_eq_true rfl) d_MA_compute_288 ⟨Nat.zero_le _, Nat.zero_le _⟩
    clear hq
    refine jk_v hr hA hP hD hS [0] [1] (WR := [(a2, .inl (E.2.1 0, 8, .inl (upd vreg p2.toNatClampNeg (vpc + 2))))]) rfl rfl (by decide) (by decide) [1, 0] (WF := [(a0, .inr (0, [.ref a1, .ref a2, .ref a3, .ref k0, .int vsz, .int vmd, .int vpc_48, .int vba, .int vbo, .int vre, .int vti_48, .int vro_48, .int vha])), (a2, .inl (E.2.1 0, 8, .inl (upd vreg p2.toNatClampNeg (vpc + 2))))]) rfl (by decide) ?_
    clear hP hD hS
    intro H locs hP hD hS
    clear hr
    have h := Option.some.inj h
    have e_0 := (Prod.mk.inj h).1
    have h := (Prod.mk.inj h).2
    have e_1 := (Prod.mk.inj h).1
    have h := (Prod.mk.inj h).2
    have e_2 := (Prod.mk.inj h).1
    have h := (Prod.mk.inj h).2
    rw [← e_0, ← e_1, ← e_2, ← h]
    exact jr_v J hS hP hD d_MA_compute_291
  replace h := g_f c_46 h
  refine jt_df (tgt := 285) J.1 J.2.1 d_MA_compute_9 (jt_or (lo := 1) (hi := 15) (fun q q2 => by
      have e0 := lv_neT c_1 (a := 1) (by decide)
      have e1 := lv_neT c_4 (a := 6) (by decide)
      have e2 := lv_neT c_8 (a := 7) (by decide)
      have e3 := lv_neT c_13 (a := 8) (by decide)
      have e4 := lv_neT c_18 (a := 9) (by decide)
      have e5 := lv_neT c_23 (a := 10) (by decide)
      have e6 := lv_neT c_31 (a := 11) (by decide)
      have e7 := lv_neT c_36 (a := 12) (by decide)
      have e8 := lv_neT c_38 (a := 13) (by decide)
      have e9 := lv_neT c_43 (a := 14) (by decide)
      have e10 := lv_neT c_46 (a := 15) (by decide)
      have e : (p1).toInt = 2 ∨ (p1).toInt = 3 ∨ (p1).toInt = 4 ∨ (p1).toInt = 5 := by omega
      rcases e with e | e | e | e <;> rw [e] <;> rfl)) (by decide) ?_
  refine lv_aload_n J.1 J.2.1 d_MA_compute_285 rfl (lv_at hl 1 rfl) ?_
  refine lv_iload J.1 J.2.1 d_MA_compute_286 (lv_at hl 0 rfl) ?_
  replace h := g_bd h
  obtain ⟨⟨vpc_49, vti_49, vro_49⟩, q_49, h⟩ := h
  try dsimp only at h
  have hq := ct_MA_goOn l E a0 a1 a2 a3 k0 s.heap.size vsz vmd vpc vba vbo vre vti vro vha (vpc + 2) vpc_49 vti_49 vro_49 q_49
  have hr := jrunV (p := p) (e := e) (below := below) (R := ({ frames := 1, cells := 0, slots := 0, locals := 22 })) (cells := 0) (slots := 0) (As := [.int (vpc + 2)]) (rest := []) J hJ hA hZ hP hD hS hq [0] rfl (by decide) gl_MA_81 gi_MA_goOn gsel_MA_goOn gini_MA gc_MA_goOn hd_MA_goOn ⟨rfl, rfl, Nat.le_of_ble_eq_true rfl, Nat.le_of_ble_eq_true rfl⟩ rfl rfl hl.1 rfl rfl (Nat.le_of_ble_eq_true rfl) d_MA_compute_288 ⟨Nat.zero_le _, Nat.zero_le _⟩
  clear hq
  refine jk_v hr hA hP hD hS [0] [1] (WR := [(a2, .inl (E.2.1 0, 8, .inl vreg))]) rfl rfl (by decide) (by decide) [1, 0] (WF := [(a0, .inr (0, [.ref a1, .ref a2, .ref a3, .ref k0, .int vsz, .int vmd, .int vpc_49, .int vba, .int vbo, .int vre, .int vti_49, .int vro_49, .int vha])), (a2, .inl (E.2.1 0, 8, .inl vreg))]) rfl (by decide) ?_
  clear hP hD hS
  intro H locs hP hD hS
  clear hr
  have h := Option.some.inj h
  have e_0 := (Prod.mk.inj h).1
  have h := (Prod.mk.inj h).2
  have e_1 := (Prod.mk.inj h).1
  have h := (Prod.mk.inj h).2
  have e_2 := (Prod.mk.inj h).1
  have h := (Prod.mk.inj h).2
  rw [← e_0, ← e_1, ← e_2, ← h]
  exact jr_v J hS hP hD d_MA_compute_291

theorem hd_MA_govern : y_MA_govern.cls ≠ "java/lang/invoke/MethodHandle" ∧ y_MA_govern.cls ≠ "java/lang/invoke/VarHandle" ∧ (parseMethodDescriptor y_MA_govern.desc).map (fun d => d.parameters.length) = some 4 := by decide +kernel
def b_MA_govern_25 (vsz : Int32) (vmd : Int32) (vpc : Int32) (vba : Int32) (vbo : Int32) (vre : Int32) (vti : Int32) (vro : Int32) (vha : Int32) (vmem : Nat → Int32) (vreg : Nat → Int32) (vblk : Nat → Int32) (kold : Int32) (kwai : Int32) (ksnt : Int32) (ktyp : Nat → Int32) (ksen : Nat → Int32) (x1 : Int32) (x2 : Int32) (x5 : Int32) : Option (Int32 × Int32 × Int32 × Int32 × Int32 × Int32 × Int32 × Int32 × (Nat → Int32) × (Nat → Int32) × (Nat → Int32) × Int32 × Int32 × Int32 × (Nat → Int32)) := ((f_MA_wordsWanted  x1).bind fun r_1 => ((f_MA_firstBad vre x5 r_1).bind fun r_2 => (if r_2 = (-1 : Int32) then (if ck x2 8 then (if (x1) = 0 then (some (vmd, vpc, vba, vbo, vre, vti, vro, 1, vmem, vreg, vblk, kold, kwai, ksnt, ksen)) else (if (x1) = 17 then ((f_MA_takeStatus vsz vmem (vba + x5)).bind fun (vmd_7, vpc_7, vba_7, vbo_7, vre_7) => (some (vmd_7, vpc_7, vba_7, vbo_7, vre_7, vti, vro, vha, vmem, vreg, vblk, kold, kwai, ksnt, ksen))) else (if (x1) = 18 then ((f_MA_keepStatus vmd vba vbo vmem (vba + x5) (vpc + 2)).bind fun vmem_9 => (some (vmd, (vpc + 2), vba, vbo, vre, vti, vro, vha, vmem_9, vreg, vblk, kold, kwai, ksnt, ksen))) else (if (x1) = 19 then (if ck x2 8 then (some (vmd, (vpc + 2), vba, vbo, vre, (vreg x2.toNatClampNeg), 0, vha, vmem, vreg, vblk, kold, kwai, ksnt, ksen)) else none) else (if (x1) = 20 then (if ck x2 8 then (some (vmd, (vpc + 2), vba, vbo, vre, vti, vro, vha, vmem, (upd vreg x2.toNatClampNeg vti), vblk, kold, kwai, ksnt, ksen)) else none) else (if (x1) = 21 then ((f_CO_nextTyped kold kwai ktyp).bind fun (r_15, kold_15, kwai_15) => (if ck x2 8 then (some (vmd, (vpc + 2), vba, vbo, vre, vti, vro, vha, vmem, (upd vreg x2.toNatClampNeg r_15), vblk, kold_15, kwai_15, ksnt, ksen)) else none)) else (if (x1) = 22 then (if ck x2 8 then ((f_CO_send ksnt ksen ((vreg x2.toNatClampNeg) &&& 255)).bind fun (ksnt_19, ksen_19) => (some (vmd, (vpc + 2), vba, vbo, vre, vti, vro, vha, vmem, vreg, vblk, kold, kwai, ksnt_19, ksen_19))) else none) else (if (x1) = 23 then (if cq (((vreg x2.toNatClampNeg) &&& 7) * 16) 128 (vba + x5) 1844 16 then (some (vmd, (vpc + 2), vba, vbo, vre, vti, vro, vha, (va_cpy vblk vmem (((vreg x2.toNatClampNeg) &&& 7) * 16).toNatClampNeg (vba + x5).toNatClampNeg (16 : Int32).toNatClampNeg), vreg, vblk, kold, kwai, ksnt, ksen)) else none) else (if (x1) = 24 then (if cq (vba + x5) 1844 (((vreg x2.toNatClampNeg) &&& 7) * 16) 128 16 then (some (vmd, (vpc + 2), vba, vbo, vre, vti, vro, vha, vmem, vreg, (va_cpy vmem vblk (vba + x5).toNatClampNeg (((vreg x2.toNatClampNeg) &&& 7) * 16).toNatClampNeg (16 : Int32).toNatClampNeg), kold, kwai, ksnt, ksen)) else none) else (some (vmd, (vpc + 2), vba, vbo, vre, vti, vro, vha, vmem, vreg, vblk, kold, kwai, ksnt, ksen))))))))))) else none) else ((f_MA_trap vsz vmd vba vbo vmem 2 r_2 vpc).bind fun (vmd_24, vpc_24, vba_24, vbo_24, vre_24, vmem_24) => (some (vmd_24, vpc_24, vba_24, vbo_24, vre_24, vti, vro, vha, vmem_24, vreg, vblk, kold, kwai, ksnt, ksen))))))
def f_MA_govern (vsz : Int32) (vmd : Int32) (vpc : Int32) (vba : Int32) (vbo : Int32) (vre : Int32) (vti : Int32) (vro : Int32) (vha : Int32) (vmem : Nat → Int32) (vreg : Nat → Int32) (vblk : Nat → Int32) (kold : Int32) (kwai : Int32) (ksnt : Int32) (ktyp : Nat → Int32) (ksen : Nat → Int32) (p1 : Int32) (p2 : Int32) (p3 : Int32) (p4 : Int32) : Option (Int32 × Int32 × Int32 × Int32 × Int32 × Int32 × Int32 × Int32 × (Nat → Int32) × (Nat → Int32) × (Nat → Int32) × Int32 × Int32 × Int32 × (Nat → Int32)) := (if (23 : Int32) ≤ p1 then (if ck p3 8 then b_MA_govern_25 vsz vmd vpc vba vbo vre vti vro vha vmem vreg vblk kold kwai ksnt ktyp ksen p1 p2 (((vreg p3.toNatClampNeg) + p4) &&& 65535) else none) else b_MA_govern_25 vsz vmd vpc vba vbo vre vti vro vha vmem vreg vblk kold kwai ksnt ktyp ksen p1 p2 p4)
set_option maxHeartbeats 4000000 in
set_option maxRecDepth 100000 in
theorem kb_MA_govern_25 {p : Program} {l : Launch} {e : Env} {s : State} {m : MethodId} {below : List Frame} {meth : Method} {c : Code} {A : Nat → Prop} {E : jz_E} {a0 a1 a2 a3 k0 k1 k2 : Nat} {p1 : Int32} {p2 : Int32} {p3 : Int32} {p4 : Int32} {o_vmd : Int32} {o_vpc : Int32} {o_vba : Int32} {o_vbo : Int32} {o_vre : Int32} {o_vti : Int32} {o_vro : Int32} {o_vha : Int32} {o_vmem : Nat → Int32} {o_vreg : Nat → Int32} {o_vblk : Nat → Int32} {o_kold : Int32} {o_kwai : Int32} {o_ksnt : Int32} {o_ksen : Nat → Int32} (J : JC p s m ([.ref a0, .int p1, .int p2, .int p3, .int p4] : List Value).toArray meth c c_MA_govern 10 none y_MA_govern.cls) (hJ : jE E s) (hA : ∀ q : Nat, s.heap.size ≤ q → A q) (hZ : jz_ok E A s s.heap) : ∀ (vsz : Int32) (vmd : Int32) (vpc : Int32) (vba : Int32) (vbo : Int32) (vre : Int32) (vti : Int32) (vro : Int32) (vha : Int32) (vmem : Nat → Int32) (vreg : Nat → Int32) (vblk : Nat → Int32) (kold : Int32) (kwai : Int32) (ksnt : Int32) (ktyp : Nat → Int32) (ksen : Nat → Int32) (x1 : Int32) (x2 : Int32) (x5 : Int32) (H : Heap) (locs : List Loc) (ls : Array Slot), b_MA_govern_25 vsz vmd vpc vba vbo vre vti vro vha vmem vreg vblk kold kwai ksnt ktyp ksen x1 x2 x5 = some (o_vmd, o_vpc, o_vba, o_vbo, o_vre, o_vti, o_vro, o_vha, o_vmem, o_vreg, o_vblk, o_kold, o_kwai, o_ksnt, o_ksen) → va_P E.1 classes [(a0, .inr (0, [.ref a1, .ref a2, .ref a3, .ref k0, .int vsz, .int vmd, .int vpc, .int vba, .int vbo, .int vre, .int vti, .int vro, .int vha])), (a1, .inl (E.2.1 0, 1844, .inl vmem)), (a2, .inl (E.2.1 0, 8, .inl vreg)), (a3, .inl (E.2.1 0, 128, .inl vblk)), (k0, .inr (1, [.ref k1, .ref k2, .int kold, .int kwai, .int ksnt])), (k1, .inl (E.2.1 0, 100, .inl ktyp)), (k2, .inl (E.2.1 0, 500, .inl ksen))] H → va_D A [(a0, .inr (0, [.ref a1, .ref a2, .ref a3, .ref k0, .int vsz, .int vmd, .int vpc, .int vba, .int vbo, .int vre, .int vti, .int vro, .int vha])), (a1, .inl (E.2.1 0, 1844, .inl vmem)), (a2, .inl (E.2.1 0, 8, .inl vreg)), (a3, .inl (E.2.1 0, 128, .inl vblk)), (k0, .inr (1, [.ref k1, .ref k2, .int kold, .int kwai, .int ksnt])), (k1, .inl (E.2.1 0, 100, .inl ktyp)), (k2, .inl (E.2.1 0, 500, .inl ksen))] → va_S A s.heap H locs → lv_has ls 10 [(0, .ref a0), (1, .int x1), (2, .int x2), (5, .int x5)] → W p l e ({ frames := 2, cells := 0, slots := 0, locals := 100 }) s m ([.ref a0, .int p1, .int p2, .int p3, .int p4] : List Value).toArray below meth c H locs 0 0 (MQ below (va_Qv (fun (u : va_W) => u = [(a0, .inr (0, [.ref a1, .ref a2, .ref a3, .ref k0, .int vsz, .int o_vmd, .int o_vpc, .int o_vba, .int o_vbo, .int o_vre, .int o_vti, .int o_vro, .int o_vha])), (a1, .inl (E.2.1 0, 1844, .inl o_vmem)), (a2, .inl (E.2.1 0, 8, .inl o_vreg)), (a3, .inl (E.2.1 0, 128, .inl o_vblk)), (k0, .inr (1, [.ref k1, .ref k2, .int o_kold, .int o_kwai, .int o_ksnt])), (k1, .inl (E.2.1 0, 100, .inl ktyp)), (k2, .inl (E.2.1 0, 500, .inl o_ksen))]) (BW E A) A) ([.ref a0, .int p1, .int p2, .int p3, .int p4] : List Value).toArray s 0 0 A) (F0 m 25 ls []) := by
  intro vsz vmd vpc vba vbo vre vti vro vha vmem vreg vblk kold kwai ksnt ktyp ksen x1 x2 x5 H locs ls h hP hD hS hl
  rw [b_MA_govern_25] at h
  refine lv_aload_n J.1 J.2.1 d_MA_govern_25 rfl (lv_at hl 0 rfl) ?_
  refine lv_iload J.1 J.2.1 d_MA_govern_26 (lv_at hl 3 rfl) ?_
  refine lv_iload_n J.1 J.2.1 d_MA_govern_28 rfl (lv_at hl 1 rfl) ?_
  replace h := g_bd h
  obtain ⟨r_1, q_1, h⟩ := h
  have hq := ct_MA_wordsWanted l E  H.size  x1 r_1 q_1
  have hr := jrunS (p := p) (e := e) (below := below) (R := ({ frames := 2, cells := 0, slots := 0, locals := 100 })) (cells := 0) (slots := 0) (As := [.int x1]) (rest := [.int x5, .ref a0]) J hJ hA hZ hP hD hS hq [] rfl (by decide) gl_MA_89 gs_MA_wordsWanted gini_MA gc_MA_wordsWanted hd_MA_wordsWanted ⟨rfl, rfl, Nat.le_of_ble_eq_true rfl, Nat.le_of_ble_eq_true rfl⟩ hl.1 rfl rfl (Nat.le_of_ble_eq_true rfl) d_MA_govern_29 ⟨Nat.zero_le _, Nat.zero_le _⟩
  clear hq
  refine jk_i hr hA hP hD hS [] [0, 1, 2, 3, 4, 5, 6] (WR := [(a0, .inr (0, [.ref a1, .ref a2, .ref a3, .ref k0, .int vsz, .int vmd, .int vpc, .int vba, .int vbo, .int vre, .int vti, .int vro, .int vha])), (a1, .inl (E.2.1 0, 1844, .inl vmem)), (a2, .inl (E.2.1 0, 8, .inl vreg)), (a3, .inl (E.2.1 0, 128, .inl vblk)), (k0, .inr (1, [.ref k1, .ref k2, .int kold, .int kwai, .int ksnt])), (k1, .inl (E.2.1 0, 100, .inl ktyp)), (k2, .inl (E.2.1 0, 500, .inl ksen))]) rfl rfl (by decide) (by decide) [0, 1, 2, 3, 4, 5, 6] (WF := [(a0, .inr (0, [.ref a1, .ref a2, .ref a3, .ref k0, .int vsz, .int vmd, .int vpc, .int vba, .int vbo, .int vre, .int vti, .int vro, .int vha])), (a1, .inl (E.2.1 0, 1844, .inl vmem)), (a2, .inl (E.2.1 0, 8, .inl vreg)), (a3, .inl (E.2.1 0, 128, .inl vblk)), (k0, .inr (1, [.ref k1, .ref k2, .int kold, .int kwai, .int ksnt])), (k1, .inl (E.2.1 0, 100, .inl ktyp)), (k2, .inl (E.2.1 0, 500, .inl ksen))]) rfl (by decide) ?_
  clear hP hD hS
  intro H locs hP hD hS
  clear hr
  replace h := g_bd h
  obtain ⟨r_2, q_2, h⟩ := h
  have hq := ct_MA_firstBad l E a0 a1 a2 a3 k0 H.size vsz vmd vpc vba vbo vre vti vro vha x5 r_1 r_2 q_2
  have hr := jrunV (p := p) (e := e) (below := below) (R := ({ frames := 2, cells := 0, slots := 0, locals := 100 })) (cells := 0) (slots := 0) (As := [.int x5, .int r_1]) (rest := []) J hJ hA hZ hP hD hS hq [0] rfl (by decide) gl_MA_93 gi_MA_firstBad gsel_MA_firstBad gini_MA gc_MA_firstBad hd_MA_firstBad ⟨rfl, rfl, Nat.le_of_ble_eq_true rfl, Nat.le_of_ble_eq_true rfl⟩ rfl rfl hl.1 rfl rfl (Nat.le_of_ble_eq_true rfl) d_MA_govern_32 ⟨Nat.zero_le _, Nat.zero_le _⟩
  clear hq
  refine jk_i hr hA hP hD hS [0] [1, 2, 3, 4, 5, 6] (WR := [(a1, .inl (E.2.1 0, 1844, .inl vmem)), (a2, .inl (E.2.1 0, 8, .inl vreg)), (a3, .inl (E.2.1 0, 128, .inl vblk)), (k0, .inr (1, [.ref k1, .ref k2, .int kold, .int kwai, .int ksnt])), (k1, .inl (E.2.1 0, 100, .inl ktyp)), (k2, .inl (E.2.1 0, 500, .inl ksen))]) rfl rfl (by decide) (by decide) [6, 0, 1, 2, 3, 4, 5] (WF := [(a0, .inr (0, [.ref a1, .ref a2, .ref a3, .ref k0, .int vsz, .int vmd, .int vpc, .int vba, .int vbo, .int vre, .int vti, .int vro, .int vha])), (a1, .inl (E.2.1 0, 1844, .inl vmem)), (a2, .inl (E.2.1 0, 8, .inl vreg)), (a3, .inl (E.2.1 0, 128, .inl vblk)), (k0, .inr (1, [.ref k1, .ref k2, .int kold, .int kwai, .int ksnt])), (k1, .inl (E.2.1 0, 100, .inl ktyp)), (k2, .inl (E.2.1 0, 500, .inl ksen))]) rfl (by decide) ?_
  clear hP hD hS
  intro H locs hP hD hS
  clear hr
  refine lv_istore (lv' := [(6, .int r_2), (0, .ref a0), (1, .int x1), (2, .int x2), (5, .int x5)]) J.1 J.2.1 d_MA_govern_35 hl (by decide) rfl ?_
  clear hl
  intro ls hl
  refine lv_iload J.1 J.2.1 d_MA_govern_37 (lv_at hl 0 rfl) ?_
  refine lv_iconst (v := (-1)) J.1 J.2.1 d_MA_govern_39 (by decide) ?_
  refine lv_icmp_eq (tgt := 55) J.1 J.2.1 d_MA_govern_40 (by decide) (fun c_3 => ?_) (fun c_3 => ?_)
  · replace h := g_t c_3 h
    refine lv_aload_n J.1 J.2.1 d_MA_govern_55 rfl (lv_at hl 1 rfl) ?_
    refine jg J hJ hP 0 rfl rfl i_MA 7 (by decide) gf_MA_47 rfl d_MA_govern_56 ?_
    refine lv_iload J.1 J.2.1 d_MA_govern_59 (lv_at hl 4 rfl) ?_
    refine lv_iadd J.1 J.2.1 d_MA_govern_61 ?_
    refine lv_istore (lv' := [(7, .int (vba + x5)), (6, .int r_2), (0, .ref a0), (1, .int x1), (2, .int x2), (5, .int x5)]) J.1 J.2.1 d_MA_govern_62 hl (by decide) rfl ?_
    clear hl
    intro ls hl
    refine lv_aload_n J.1 J.2.1 d_MA_govern_64 rfl (lv_at hl 2 rfl) ?_
    refine jg J hJ hP 0 rfl rfl i_MA 1 (by decide) gf_MA_15 rfl d_MA_govern_65 ?_
    refine lv_iload_n J.1 J.2.1 d_MA_govern_68 rfl (lv_at hl 4 rfl) ?_
    replace h := g_ck h
    obtain ⟨k_4, h⟩ := h
    refine jai J hJ hP 2 rfl k_4 d_MA_govern_69 ?_
    refine lv_bipush (v := 7) J.1 J.2.1 d_MA_govern_70 (by decide) ?_
    refine lv_iand J.1 J.2.1 d_MA_govern_72 ?_
    refine lv_bipush (v := 16) J.1 J.2.1 d_MA_govern_73 (by decide) ?_
    refine lv_imul J.1 J.2.1 d_MA_govern_75 ?_
    refine lv_istore (lv' := [(8, .int (((vreg x2.toNatClampNeg) &&& 7) * 16)), (7, .int (vba + x5)), (6, .int r_2), (0, .ref a0), (1, .int x1), (2, .int x2), (5, .int x5)]) J.1 J.2.1 d_MA_govern_76 hl (by decide) rfl ?_
    clear hl
    intro ls hl
    refine lv_aload_n J.1 J.2.1 d_MA_govern_78 rfl (lv_at hl 3 rfl) ?_
    refine jg J hJ hP 0 rfl rfl i_MA 6 (by decide) gf_MA_44 rfl d_MA_govern_79 ?_
    refine lv_iconst (v := 2) J.1 J.2.1 d_MA_govern_82 (by decide) ?_
    refine lv_iadd J.1 J.2.1 d_MA_govern_83 ?_
    refine lv_istore (lv' := [(9, .int (vpc + 2)), (8, .int (((vreg x2.toNatClampNeg) &&& 7) * 16)), (7, .int (vba + x5)), (6, .int r_2), (0, .ref a0), (1, .int x1), (2, .int x2), (5, .int x5)]) J.1 J.2.1 d_MA_govern_84 hl (by decide) rfl ?_
    clear hl
    intro ls hl
    refine lv_iload_n J.1 J.2.1 d_MA_govern_86 rfl (lv_at hl 5 rfl) ?_
    by_cases c_5 : (x1) = 0
    · replace h := g_t c_5 h
      refine lv_tableIn (off := 113) (tgt := 200) J.1 J.2.1 d_MA_govern_87 (by rw [c_5]; decide) (by rw [c_5]; decide) (by rw [c_5]; rfl) (by decide) ?_
      refine lv_aload_n J.1 J.2.1 d_MA_govern_200 rfl (lv_at hl 4 rfl) ?_
      refine lv_iconst (v := 1) J.1 J.2.1 d_MA_govern_201 (by decide) ?_
      refine jp J hJ hP hD hS 0 rfl rfl i_MA t_MA t_MA_ok n_MA 12 (by decide) gf_MA_63 rfl rfl rfl (Nat.le_of_ble_eq_true rfl) d_MA_govern_202 (WS' := [(a0, .inr (0, [.ref a1, .ref a2, .ref a3, .ref k0, .int vsz, .int vmd, .int vpc, .int vba, .int vbo, .int vre, .int vti, .int vro, .int 1])), (a1, .inl (E.2.1 0, 1844, .inl vmem)), (a2, .inl (E.2.1 0, 8, .inl vreg)), (a3, .inl (E.2.1 0, 128, .inl vblk)), (k0, .inr (1, [.ref k1, .ref k2, .int kold, .int kwai, .int ksnt])), (k1, .inl (E.2.1 0, 100, .inl ktyp)), (k2, .inl (E.2.1 0, 500, .inl ksen))]) rfl ?_
      clear hP hD hS
      intro H locs hP hD hS
      have h := Option.some.inj h
      have e_0 := (Prod.mk.inj h).1
      have h := (Prod.mk.inj h).2
      have e_1 := (Prod.mk.inj h).1
      have h := (Prod.mk.inj h).2
      have e_2 := (Prod.mk.inj h).1
      have h := (Prod.mk.inj h).2
      have e_3 := (Prod.mk.inj h).1
      have h := (Prod.mk.inj h).2
      have e_4 := (Prod.mk.inj h).1
      have h := (Prod.mk.inj h).2
      have e_5 := (Prod.mk.inj h).1
      have h := (Prod.mk.inj h).2
      have e_6 := (Prod.mk.inj h).1
      have h := (Prod.mk.inj h).2
      have e_7 := (Prod.mk.inj h).1
      have h := (Prod.mk.inj h).2
      have e_8 := (Prod.mk.inj h).1
      have h := (Prod.mk.inj h).2
      have e_9 := (Prod.mk.inj h).1
      have h := (Prod.mk.inj h).2
      have e_10 := (Prod.mk.inj h).1
      have h := (Prod.mk.inj h).2
      have e_11 := (Prod.mk.inj h).1
      have h := (Prod.mk.inj h).2
      have e_12 := (Prod.mk.inj h).1
      have h := (Prod.mk.inj h).2
      have e_13 := (Prod.mk.inj h).1
      have h := (Prod.mk.inj h).2
      rw [← e_0, ← e_1, ← e_2, ← e_3, ← e_4, ← e_5, ← e_6, ← e_7, ← e_8, ← e_9, ← e_10, ← e_11, ← e_12, ← e_13, ← h]
      exact jr_v J hS hP hD d_MA_govern_205
    replace h := g_f c_5 h
    by_cases c_6 : (x1) = 17
    · replace h := g_t c_6 h
      refine lv_tableIn (off := 119) (tgt := 206) J.1 J.2.1 d_MA_govern_87 (by rw [c_6]; decide) (by rw [c_6]; decide) (by rw [c_6]; rfl) (by decide) ?_
      refine lv_aload_n J.1 J.2.1 d_MA_govern_206 rfl (lv_at hl 4 rfl) ?_
      refine lv_iload J.1 J.2.1 d_MA_govern_207 (lv_at hl 2 rfl) ?_
      replace h := g_bd h
      obtain ⟨⟨vmd_7, vpc_7, vba_7, vbo_7, vre_7⟩, q_7, h⟩ := h
      try dsimp only at h
      have hq := ct_MA_takeStatus l E a0 a1 a2 a3 k0 H.size vsz vmd vpc vba vbo vre vti vro vha vmem (vba + x5) vmd_7 vpc_7 vba_7 vbo_7 vre_7 q_7
      have hr := jrunV (p := p) (e := e) (below := below) (R := ({ frames := 2, cells := 0, slots := 0, locals := 100 })) (cells := 0) (slots := 0) (As := [.int (vba + x5)]) (rest := []) J hJ hA hZ hP hD hS hq [0, 1] rfl (by decide) gl_MA_96 gi_MA_takeStatus gsel_MA_takeStatus gini_MA gc_MA_takeStatus hd_MA_takeStatus ⟨rfl, rfl, Nat.le_of_ble_eq_true rfl, Nat.le_of_ble_eq_true rfl⟩ rfl rfl hl.1 rfl rfl (Nat.le_of_ble_eq_true rfl) d_MA_govern_209 ⟨Nat.zero_le _, Nat.zero_le _⟩
      clear hq
      refine jk_v hr hA hP hD hS [0, 1] [2, 3, 4, 5, 6] (WR := [(a2, .inl (E.2.1 0, 8, .inl vreg)), (a3, .inl (E.2.1 0, 128, .inl vblk)), (k0, .inr (1, [.ref k1, .ref k2, .int kold, .int kwai, .int ksnt])), (k1, .inl (E.2.1 0, 100, .inl ktyp)), (k2, .inl (E.2.1 0, 500, .inl ksen))]) rfl rfl (by decide) (by decide) [5, 6, 0, 1, 2, 3, 4] (WF := [(a0, .inr (0, [.ref a1, .ref a2, .ref a3, .ref k0, .int vsz, .int vmd_7, .int vpc_7, .int vba_7, .int vbo_7, .int vre_7, .int vti, .int vro, .int vha])), (a1, .inl (E.2.1 0, 1844, .inl vmem)), (a2, .inl (E.2.1 0, 8, .inl vreg)), (a3, .inl (E.2.1 0, 128, .inl vblk)), (k0, .inr (1, [.ref k1, .ref k2, .int kold, .int kwai, .int ksnt])), (k1, .inl (E.2.1 0, 100, .inl ktyp)), (k2, .inl (E.2.1 0, 500, .inl ksen))]) rfl (by decide) ?_
      clear hP hD hS
      intro H locs hP hD hS
      clear hr
      have h := Option.some.inj h
      have e_0 := (Prod.mk.inj h).1
      have h := (Prod.mk.inj h).2
      have e_1 := (Prod.mk.inj h).1
      have h := (Prod.mk.inj h).2
      have e_2 := (Prod.mk.inj h).1
      have h := (Prod.mk.inj h).2
      have e_3 := (Prod.mk.inj h).1
      have h := (Prod.mk.inj h).2
      have e_4 := (Prod.mk.inj h).1
      have h := (Prod.mk.inj h).2
      have e_5 := (Prod.mk.inj h).1
      have h := (Prod.mk.inj h).2
      have e_6 := (Prod.mk.inj h).1
      have h := (Prod.mk.inj h).2
      have e_7 := (Prod.mk.inj h).1
      have h := (Prod.mk.inj h).2
      have e_8 := (Prod.mk.inj h).1
      have h := (Prod.mk.inj h).2
      have e_9 := (Prod.mk.inj h).1
      have h := (Prod.mk.inj h).2
      have e_10 := (Prod.mk.inj h).1
      have h := (Prod.mk.inj h).2
      have e_11 := (Prod.mk.inj h).1
      have h := (Prod.mk.inj h).2
      have e_12 := (Prod.mk.inj h).1
      have h := (Prod.mk.inj h).2
      have e_13 := (Prod.mk.inj h).1
      have h := (Prod.mk.inj h).2
      rw [← e_0, ← e_1, ← e_2, ← e_3, ← e_4, ← e_5, ← e_6, ← e_7, ← e_8, ← e_9, ← e_10, ← e_11, ← e_12, ← e_13, ← h]
      exact jr_v J hS hP hD d_MA_govern_212
    replace h := g_f c_6 h
    by_cases c_8 : (x1) = 18
    · replace h := g_t c_8 h
      refine lv_tableIn (off := 126) (tgt := 213) J.1 J.2.1 d_MA_govern_87 (by rw [c_8]; decide) (by rw [c_8]; decide) (by rw [c_8]; rfl) (by decide) ?_
      refine lv_aload_n J.1 J.2.1 d_MA_govern_213 rfl (lv_at hl 4 rfl) ?_
      refine lv_iload J.1 J.2.1 d_MA_govern_214 (lv_at hl 2 rfl) ?_
      refine lv_iload J.1 J.2.1 d_MA_govern_216 (lv_at hl 0 rfl) ?_
      replace h := g_bd h
      obtain ⟨vmem_9, q_9, h⟩ := h
      have hq := ct_MA_keepStatus l E a0 a1 a2 a3 k0 H.size vsz vmd vpc vba vbo vre vti vro vha vmem (vba + x5) (vpc + 2) vmem_9 q_9
      have hr := jrunV (p := p) (e := e) (below := below) (R := ({ frames := 2, cells := 0, slots := 0, locals := 100 })) (cells := 0) (slots := 0) (As := [.int (vba + x5), .int (vpc + 2)]) (rest := []) J hJ hA hZ hP hD hS hq [0, 1] rfl (by decide) gl_MA_99 gi_MA_keepStatus gsel_MA_keepStatus gini_MA gc_MA_keepStatus hd_MA_keepStatus ⟨rfl, rfl, Nat.le_of_ble_eq_true rfl, Nat.le_of_ble_eq_true rfl⟩ rfl rfl hl.1 rfl rfl (Nat.le_of_ble_eq_true rfl) d_MA_govern_218 ⟨Nat.zero_le _, Nat.zero_le _⟩
      clear hq
      refine jk_v hr hA hP hD hS [0, 1] [2, 3, 4, 5, 6] (WR := [(a2, .inl (E.2.1 0, 8, .inl vreg)), (a3, .inl (E.2.1 0, 128, .inl vblk)), (k0, .inr (1, [.ref k1, .ref k2, .int kold, .int kwai, .int ksnt])), (k1, .inl (E.2.1 0, 100, .inl ktyp)), (k2, .inl (E.2.1 0, 500, .inl ksen))]) rfl rfl (by decide) (by decide) [5, 6, 0, 1, 2, 3, 4] (WF := [(a0, .inr (0, [.ref a1, .ref a2, .ref a3, .ref k0, .int vsz, .int vmd, .int vpc, .int vba, .int vbo, .int vre, .int vti, .int vro, .int vha])), (a1, .inl (E.2.1 0, 1844, .inl vmem_9)), (a2, .inl (E.2.1 0, 8, .inl vreg)), (a3, .inl (E.2.1 0, 128, .inl vblk)), (k0, .inr (1, [.ref k1, .ref k2, .int kold, .int kwai, .int ksnt])), (k1, .inl (E.2.1 0, 100, .inl ktyp)), (k2, .inl (E.2.1 0, 500, .inl ksen))]) rfl (by decide) ?_
      clear hP hD hS
      intro H locs hP hD hS
      clear hr
      refine lv_goto (tgt := 331) J.1 J.2.1 d_MA_govern_221 (by decide) ?_
      refine lv_aload_n J.1 J.2.1 d_MA_govern_331 rfl (lv_at hl 4 rfl) ?_
      refine lv_iload J.1 J.2.1 d_MA_govern_332 (lv_at hl 0 rfl) ?_
      refine jp J hJ hP hD hS 0 rfl rfl i_MA t_MA t_MA_ok n_MA 6 (by decide) gf_MA_44 rfl rfl rfl (Nat.le_of_ble_eq_true rfl) d_MA_govern_334 (WS' := [(a0, .inr (0, [.ref a1, .ref a2, .ref a3, .ref k0, .int vsz, .int vmd, .int (vpc + 2), .int vba, .int vbo, .int vre, .int vti, .int vro, .int vha])), (a1, .inl (E.2.1 0, 1844, .inl vmem_9)), (a2, .inl (E.2.1 0, 8, .inl vreg)), (a3, .inl (E.2.1 0, 128, .inl vblk)), (k0, .inr (1, [.ref k1, .ref k2, .int kold, .int kwai, .int ksnt])), (k1, .inl (E.2.1 0, 100, .inl ktyp)), (k2, .inl (E.2.1 0, 500, .inl ksen))]) rfl ?_
      clear hP hD hS
      intro H locs hP hD hS
      have h := Option.some.inj h
      have e_0 := (Prod.mk.inj h).1
      have h := (Prod.mk.inj h).2
      have e_1 := (Prod.mk.inj h).1
      have h := (Prod.mk.inj h).2
      have e_2 := (Prod.mk.inj h).1
      have h := (Prod.mk.inj h).2
      have e_3 := (Prod.mk.inj h).1
      have h := (Prod.mk.inj h).2
      have e_4 := (Prod.mk.inj h).1
      have h := (Prod.mk.inj h).2
      have e_5 := (Prod.mk.inj h).1
      have h := (Prod.mk.inj h).2
      have e_6 := (Prod.mk.inj h).1
      have h := (Prod.mk.inj h).2
      have e_7 := (Prod.mk.inj h).1
      have h := (Prod.mk.inj h).2
      have e_8 := (Prod.mk.inj h).1
      have h := (Prod.mk.inj h).2
      have e_9 := (Prod.mk.inj h).1
      have h := (Prod.mk.inj h).2
      have e_10 := (Prod.mk.inj h).1
      have h := (Prod.mk.inj h).2
      have e_11 := (Prod.mk.inj h).1
      have h := (Prod.mk.inj h).2
      have e_12 := (Prod.mk.inj h).1
      have h := (Prod.mk.inj h).2
      have e_13 := (Prod.mk.inj h).1
      have h := (Prod.mk.inj h).2
      rw [← e_0, ← e_1, ← e_2, ← e_3, ← e_4, ← e_5, ← e_6, ← e_7, ← e_8, ← e_9, ← e_10, ← e_11, ← e_12, ← e_13, ← h]
      exact jr_v J hS hP hD d_MA_govern_337
    replace h := g_f c_8 h
    by_cases c_10 : (x1) = 19
    · replace h := g_t c_10 h
      refine lv_tableIn (off := 137) (tgt := 224) J.1 J.2.1 d_MA_govern_87 (by rw [c_10]; decide) (by rw [c_10]; decide) (by rw [c_10]; rfl) (by decide) ?_
      refine lv_aload_n J.1 J.2.1 d_MA_govern_224 rfl (lv_at hl 4 rfl) ?_
      refine lv_aload_n J.1 J.2.1 d_MA_govern_225 rfl (lv_at hl 4 rfl) ?_
      refine jg J hJ hP 0 rfl rfl i_MA 1 (by decide) gf_MA_15 rfl d_MA_govern_226 ?_
      refine lv_iload_n J.1 J.2.1 d_MA_govern_229 rfl (lv_at hl 6 rfl) ?_
      replace h := g_ck h
      obtain ⟨k_11, h⟩ := h
      refine jai J hJ hP 2 rfl k_11 d_MA_govern_230 ?_
      refine jp J hJ hP hD hS 0 rfl rfl i_MA t_MA t_MA_ok n_MA 10 (by decide) gf_MA_56 rfl rfl rfl (Nat.le_of_ble_eq_true rfl) d_MA_govern_231 (WS' := [(a0, .inr (0, [.ref a1, .ref a2, .ref a3, .ref k0, .int vsz, .int vmd, .int vpc, .int vba, .int vbo, .int vre, .int (vreg x2.toNatClampNeg), .int vro, .int vha])), (a1, .inl (E.2.1 0, 1844, .inl vmem)), (a2, .inl (E.2.1 0, 8, .inl vreg)), (a3, .inl (E.2.1 0, 128, .inl vblk)), (k0, .inr (1, [.ref k1, .ref k2, .int kold, .int kwai, .int ksnt])), (k1, .inl (E.2.1 0, 100, .inl ktyp)), (k2, .inl (E.2.1 0, 500, .inl ksen))]) rfl ?_
      clear hP hD hS
      intro H locs hP hD hS
      refine lv_aload_n J.1 J.2.1 d_MA_govern_234 rfl (lv_at hl 4 rfl) ?_
      refine lv_iconst (v := 0) J.1 J.2.1 d_MA_govern_235 (by decide) ?_
      refine jp J hJ hP hD hS 0 rfl rfl i_MA t_MA t_MA_ok n_MA 11 (by decide) gf_MA_59 rfl rfl rfl (Nat.le_of_ble_eq_true rfl) d_MA_govern_236 (WS' := [(a0, .inr (0, [.ref a1, .ref a2, .ref a3, .ref k0, .int vsz, .int vmd, .int vpc, .int vba, .int vbo, .int vre, .int (vreg x2.toNatClampNeg), .int 0, .int vha])), (a1, .inl (E.2.1 0, 1844, .inl vmem)), (a2, .inl (E.2.1 0, 8, .inl vreg)), (a3, .inl (E.2.1 0, 128, .inl vblk)), (k0, .inr (1, [.ref k1, .ref k2, .int kold, .int kwai, .int ksnt])), (k1, .inl (E.2.1 0, 100, .inl ktyp)), (k2, .inl (E.2.1 0, 500, .inl ksen))]) rfl ?_
      clear hP hD hS
      intro H locs hP hD hS
      refine lv_goto (tgt := 331) J.1 J.2.1 d_MA_govern_239 (by decide) ?_
      refine lv_aload_n J.1 J.2.1 d_MA_govern_331 rfl (lv_at hl 4 rfl) ?_
      refine lv_iload J.1 J.2.1 d_MA_govern_332 (lv_at hl 0 rfl) ?_
      refine jp J hJ hP hD hS 0 rfl rfl i_MA t_MA t_MA_ok n_MA 6 (by decide) gf_MA_44 rfl rfl rfl (Nat.le_of_ble_eq_true rfl) d_MA_govern_334 (WS' := [(a0, .inr (0, [.ref a1, .ref a2, .ref a3, .ref k0, .int vsz, .int vmd, .int (vpc + 2), .int vba, .int vbo, .int vre, .int (vreg x2.toNatClampNeg), .int 0, .int vha])), (a1, .inl (E.2.1 0, 1844, .inl vmem)), (a2, .inl (E.2.1 0, 8, .inl vreg)), (a3, .inl (E.2.1 0, 128, .inl vblk)), (k0, .inr (1, [.ref k1, .ref k2, .int kold, .int kwai, .int ksnt])), (k1, .inl (E.2.1 0, 100, .inl ktyp)), (k2, .inl (E.2.1 0, 500, .inl ksen))]) rfl ?_
      clear hP hD hS
      intro H locs hP hD hS
      have h := Option.some.inj h
      have e_0 := (Prod.mk.inj h).1
      have h := (Prod.mk.inj h).2
      have e_1 := (Prod.mk.inj h).1
      have h := (Prod.mk.inj h).2
      have e_2 := (Prod.mk.inj h).1
      have h := (Prod.mk.inj h).2
      have e_3 := (Prod.mk.inj h).1
      have h := (Prod.mk.inj h).2
      have e_4 := (Prod.mk.inj h).1
      have h := (Prod.mk.inj h).2
      have e_5 := (Prod.mk.inj h).1
      have h := (Prod.mk.inj h).2
      have e_6 := (Prod.mk.inj h).1
      have h := (Prod.mk.inj h).2
      have e_7 := (Prod.mk.inj h).1
      have h := (Prod.mk.inj h).2
      have e_8 := (Prod.mk.inj h).1
      have h := (Prod.mk.inj h).2
      have e_9 := (Prod.mk.inj h).1
      have h := (Prod.mk.inj h).2
      have e_10 := (Prod.mk.inj h).1
      have h := (Prod.mk.inj h).2
      have e_11 := (Prod.mk.inj h).1
      have h := (Prod.mk.inj h).2
      have e_12 := (Prod.mk.inj h).1
      have h := (Prod.mk.inj h).2
      have e_13 := (Prod.mk.inj h).1
      have h := (Prod.mk.inj h).2
      rw [← e_0, ← e_1, ← e_2, ← e_3, ← e_4, ← e_5, ← e_6, ← e_7, ← e_8, ← e_9, ← e_10, ← e_11, ← e_12, ← e_13, ← h]
      exact jr_v J hS hP hD d_MA_govern_337
    replace h := g_f c_10 h
    by_cases c_12 : (x1) = 20
    · replace h := g_t c_12 h
      refine lv_tableIn (off := 155) (tgt := 242) J.1 J.2.1 d_MA_govern_87 (by rw [c_12]; decide) (by rw [c_12]; decide) (by rw [c_12]; rfl) (by decide) ?_
      refine lv_aload_n J.1 J.2.1 d_MA_govern_242 rfl (lv_at hl 4 rfl) ?_
      refine jg J hJ hP 0 rfl rfl i_MA 1 (by decide) gf_MA_15 rfl d_MA_govern_243 ?_
      refine lv_iload_n J.1 J.2.1 d_MA_govern_246 rfl (lv_at hl 6 rfl) ?_
      refine lv_aload_n J.1 J.2.1 d_MA_govern_247 rfl (lv_at hl 4 rfl) ?_
      refine jg J hJ hP 0 rfl rfl i_MA 10 (by decide) gf_MA_56 rfl d_MA_govern_248 ?_
      replace h := g_ck h
      obtain ⟨k_13, h⟩ := h
      refine jsi J hJ hP hD hS 2 rfl k_13 d_MA_govern_251 (WS' := [(a0, .inr (0, [.ref a1, .ref a2, .ref a3, .ref k0, .int vsz, .int vmd, .int vpc, .int vba, .int vbo, .int vre, .int vti, .int vro, .int vha])), (a1, .inl (E.2.1 0, 1844, .inl vmem)), (a2, .inl (E.2.1 0, 8, .inl (upd vreg x2.toNatClampNeg vti))), (a3, .inl (E.2.1 0, 128, .inl vblk)), (k0, .inr (1, [.ref k1, .ref k2, .int kold, .int kwai, .int ksnt])), (k1, .inl (E.2.1 0, 100, .inl ktyp)), (k2, .inl (E.2.1 0, 500, .inl ksen))]) rfl ?_
      clear hP hD hS
      intro H locs hP hD hS
      refine lv_goto (tgt := 331) J.1 J.2.1 d_MA_govern_252 (by decide) ?_
      refine lv_aload_n J.1 J.2.1 d_MA_govern_331 rfl (lv_at hl 4 rfl) ?_
      refine lv_iload J.1 J.2.1 d_MA_govern_332 (lv_at hl 0 rfl) ?_
      refine jp J hJ hP hD hS 0 rfl rfl i_MA t_MA t_MA_ok n_MA 6 (by decide) gf_MA_44 rfl rfl rfl (Nat.le_of_ble_eq_true rfl) d_MA_govern_334 (WS' := [(a0, .inr (0, [.ref a1, .ref a2, .ref a3, .ref k0, .int vsz, .int vmd, .int (vpc + 2), .int vba, .int vbo, .int vre, .int vti, .int vro, .int vha])), (a1, .inl (E.2.1 0, 1844, .inl vmem)), (a2, .inl (E.2.1 0, 8, .inl (upd vreg x2.toNatClampNeg vti))), (a3, .inl (E.2.1 0, 128, .inl vblk)), (k0, .inr (1, [.ref k1, .ref k2, .int kold, .int kwai, .int ksnt])), (k1, .inl (E.2.1 0, 100, .inl ktyp)), (k2, .inl (E.2.1 0, 500, .inl ksen))]) rfl ?_
      clear hP hD hS
      intro H locs hP hD hS
      have h := Option.some.inj h
      have e_0 := (Prod.mk.inj h).1
      have h := (Prod.mk.inj h).2
      have e_1 := (Prod.mk.inj h).1
      have h := (Prod.mk.inj h).2
      have e_2 := (Prod.mk.inj h).1
      have h := (Prod.mk.inj h).2
      have e_3 := (Prod.mk.inj h).1
      have h := (Prod.mk.inj h).2
      have e_4 := (Prod.mk.inj h).1
      have h := (Prod.mk.inj h).2
      have e_5 := (Prod.mk.inj h).1
      have h := (Prod.mk.inj h).2
      have e_6 := (Prod.mk.inj h).1
      have h := (Prod.mk.inj h).2
      have e_7 := (Prod.mk.inj h).1
      have h := (Prod.mk.inj h).2
      have e_8 := (Prod.mk.inj h).1
      have h := (Prod.mk.inj h).2
      have e_9 := (Prod.mk.inj h).1
      have h := (Prod.mk.inj h).2
      have e_10 := (Prod.mk.inj h).1
      have h := (Prod.mk.inj h).2
      have e_11 := (Prod.mk.inj h).1
      have h := (Prod.mk.inj h).2
      have e_12 := (Prod.mk.inj h).1
      have h := (Prod.mk.inj h).2
      have e_13 := (Prod.mk.inj h).1
      have h := (Prod.mk.inj h).2
      rw [← e_0, ← e_1, ← e_2, ← e_3, ← e_4, ← e_5, ← e_6, ← e_7, ← e_8, ← e_9, ← e_10, ← e_11, ← e_12, ← e_13, ← h]
      exact jr_v J hS hP hD d_MA_govern_337
    replace h := g_f c_12 h
    by_cases c_14 : (x1) = 21
    · replace h := g_t c_14 h
      refine lv_tableIn (off := 168) (tgt := 255) J.1 J.2.1 d_MA_govern_87 (by rw [c_14]; decide) (by rw [c_14]; decide) (by rw [c_14]; rfl) (by decide) ?_
      refine lv_aload_n J.1 J.2.1 d_MA_govern_255 rfl (lv_at hl 4 rfl) ?_
      refine jg J hJ hP 0 rfl rfl i_MA 1 (by decide) gf_MA_15 rfl d_MA_govern_256 ?_
      refine lv_iload_n J.1 J.2.1 d_MA_govern_259 rfl (lv_at hl 6 rfl) ?_
      refine lv_aload_n J.1 J.2.1 d_MA_govern_260 rfl (lv_at hl 4 rfl) ?_
      refine jg J hJ hP 0 rfl rfl i_MA 3 (by decide) gf_MA_24 rfl d_MA_govern_261 ?_
      replace h := g_bd h
      obtain ⟨⟨r_15, kold_15, kwai_15⟩, q_15, h⟩ := h
      try dsimp only at h
      have hq := ct_CO_nextTyped l E k0 k1 k2 H.size kold kwai ksnt ktyp r_15 kold_15 kwai_15 q_15
      have hr := jrunV (p := p) (e := e) (below := below) (R := ({ frames := 2, cells := 0, slots := 0, locals := 100 })) (cells := 0) (slots := 0) (As := []) (rest := [.int x2, .ref a2]) J hJ hA hZ hP hD hS hq [4, 5] rfl (by decide) gl_MA_103 gi_CO_nextTyped gsel_CO_nextTyped gini_CO gc_CO_nextTyped hd_CO_nextTyped ⟨rfl, rfl, Nat.le_of_ble_eq_true rfl, Nat.le_of_ble_eq_true rfl⟩ rfl rfl hl.1 rfl rfl (Nat.le_of_ble_eq_true rfl) d_MA_govern_264 ⟨Nat.zero_le _, Nat.zero_le _⟩
      clear hq
      refine jk_i hr hA hP hD hS [4, 5] [0, 1, 2, 3, 6] (WR := [(a0, .inr (0, [.ref a1, .ref a2, .ref a3, .ref k0, .int vsz, .int vmd, .int vpc, .int vba, .int vbo, .int vre, .int vti, .int vro, .int vha])), (a1, .inl (E.2.1 0, 1844, .inl vmem)), (a2, .inl (E.2.1 0, 8, .inl vreg)), (a3, .inl (E.2.1 0, 128, .inl vblk)), (k2, .inl (E.2.1 0, 500, .inl ksen))]) rfl rfl (by decide) (by decide) [0, 1, 2, 3, 5, 6, 4] (WF := [(a0, .inr (0, [.ref a1, .ref a2, .ref a3, .ref k0, .int vsz, .int vmd, .int vpc, .int vba, .int vbo, .int vre, .int vti, .int vro, .int vha])), (a1, .inl (E.2.1 0, 1844, .inl vmem)), (a2, .inl (E.2.1 0, 8, .inl vreg)), (a3, .inl (E.2.1 0, 128, .inl vblk)), (k0, .inr (1, [.ref k1, .ref k2, .int kold_15, .int kwai_15, .int ksnt])), (k1, .inl (E.2.1 0, 100, .inl ktyp)), (k2, .inl (E.2.1 0, 500, .inl ksen))]) rfl (by decide) ?_
      clear hP hD hS
      intro H locs hP hD hS
      clear hr
      replace h := g_ck h
      obtain ⟨k_16, h⟩ := h
      refine jsi J hJ hP hD hS 2 rfl k_16 d_MA_govern_267 (WS' := [(a0, .inr (0, [.ref a1, .ref a2, .ref a3, .ref k0, .int vsz, .int vmd, .int vpc, .int vba, .int vbo, .int vre, .int vti, .int vro, .int vha])), (a1, .inl (E.2.1 0, 1844, .inl vmem)), (a2, .inl (E.2.1 0, 8, .inl (upd vreg x2.toNatClampNeg r_15))), (a3, .inl (E.2.1 0, 128, .inl vblk)), (k0, .inr (1, [.ref k1, .ref k2, .int kold_15, .int kwai_15, .int ksnt])), (k1, .inl (E.2.1 0, 100, .inl ktyp)), (k2, .inl (E.2.1 0, 500, .inl ksen))]) rfl ?_
      clear hP hD hS
      intro H locs hP hD hS
      refine lv_goto (tgt := 331) J.1 J.2.1 d_MA_govern_268 (by decide) ?_
      refine lv_aload_n J.1 J.2.1 d_MA_govern_331 rfl (lv_at hl 4 rfl) ?_
      refine lv_iload J.1 J.2.1 d_MA_govern_332 (lv_at hl 0 rfl) ?_
      refine jp J hJ hP hD hS 0 rfl rfl i_MA t_MA t_MA_ok n_MA 6 (by decide) gf_MA_44 rfl rfl rfl (Nat.le_of_ble_eq_true rfl) d_MA_govern_334 (WS' := [(a0, .inr (0, [.ref a1, .ref a2, .ref a3, .ref k0, .int vsz, .int vmd, .int (vpc + 2), .int vba, .int vbo, .int vre, .int vti, .int vro, .int vha])), (a1, .inl (E.2.1 0, 1844, .inl vmem)), (a2, .inl (E.2.1 0, 8, .inl (upd vreg x2.toNatClampNeg r_15))), (a3, .inl (E.2.1 0, 128, .inl vblk)), (k0, .inr (1, [.ref k1, .ref k2, .int kold_15, .int kwai_15, .int ksnt])), (k1, .inl (E.2.1 0, 100, .inl ktyp)), (k2, .inl (E.2.1 0, 500, .inl ksen))]) rfl ?_
      clear hP hD hS
      intro H locs hP hD hS
      have h := Option.some.inj h
      have e_0 := (Prod.mk.inj h).1
      have h := (Prod.mk.inj h).2
      have e_1 := (Prod.mk.inj h).1
      have h := (Prod.mk.inj h).2
      have e_2 := (Prod.mk.inj h).1
      have h := (Prod.mk.inj h).2
      have e_3 := (Prod.mk.inj h).1
      have h := (Prod.mk.inj h).2
      have e_4 := (Prod.mk.inj h).1
      have h := (Prod.mk.inj h).2
      have e_5 := (Prod.mk.inj h).1
      have h := (Prod.mk.inj h).2
      have e_6 := (Prod.mk.inj h).1
      have h := (Prod.mk.inj h).2
      have e_7 := (Prod.mk.inj h).1
      have h := (Prod.mk.inj h).2
      have e_8 := (Prod.mk.inj h).1
      have h := (Prod.mk.inj h).2
      have e_9 := (Prod.mk.inj h).1
      have h := (Prod.mk.inj h).2
      have e_10 := (Prod.mk.inj h).1
      have h := (Prod.mk.inj h).2
      have e_11 := (Prod.mk.inj h).1
      have h := (Prod.mk.inj h).2
      have e_12 := (Prod.mk.inj h).1
      have h := (Prod.mk.inj h).2
      have e_13 := (Prod.mk.inj h).1
      have h := (Prod.mk.inj h).2
      rw [← e_0, ← e_1, ← e_2, ← e_3, ← e_4, ← e_5, ← e_6, ← e_7, ← e_8, ← e_9, ← e_10, ← e_11, ← e_12, ← e_13, ← h]
      exact jr_v J hS hP hD d_MA_govern_337
    replace h := g_f c_14 h
    by_cases c_17 : (x1) = 22
    · replace h := g_t c_17 h
      refine lv_tableIn (off := 184) (tgt := 271) J.1 J.2.1 d_MA_govern_87 (by rw [c_17]; decide) (by rw [c_17]; decide) (by rw [c_17]; rfl) (by decide) ?_
      refine lv_aload_n J.1 J.2.1 d_MA_govern_271 rfl (lv_at hl 4 rfl) ?_
      refine jg J hJ hP 0 rfl rfl i_MA 3 (by decide) gf_MA_24 rfl d_MA_govern_272 ?_
      refine lv_aload_n J.1 J.2.1 d_MA_govern_275 rfl (lv_at hl 4 rfl) ?_
      refine jg J hJ hP 0 rfl rfl i_MA 1 (by decide) gf_MA_15 rfl d_MA_govern_276 ?_
      refine lv_iload_n J.1 J.2.1 d_MA_govern_279 rfl (lv_at hl 6 rfl) ?_
      replace h := g_ck h
      obtain ⟨k_18, h⟩ := h
      refine jai J hJ hP 2 rfl k_18 d_MA_govern_280 ?_
      refine lv_sipush (v := 255) J.1 J.2.1 d_MA_govern_281 (by decide) ?_
      refine lv_iand J.1 J.2.1 d_MA_govern_284 ?_
      replace h := g_bd h
      obtain ⟨⟨ksnt_19, ksen_19⟩, q_19, h⟩ := h
      try dsimp only at h
      have hq := ct_CO_send l E k0 k1 k2 H.size kold kwai ksnt ksen ((vreg x2.toNatClampNeg) &&& 255) ksnt_19 ksen_19 q_19
      have hr := jrunV (p := p) (e := e) (below := below) (R := ({ frames := 2, cells := 0, slots := 0, locals := 100 })) (cells := 0) (slots := 0) (As := [.int ((vreg x2.toNatClampNeg) &&& 255)]) (rest := []) J hJ hA hZ hP hD hS hq [4, 6] rfl (by decide) gl_MA_107 gi_CO_send gsel_CO_send gini_CO gc_CO_send hd_CO_send ⟨rfl, rfl, Nat.le_of_ble_eq_true rfl, Nat.le_of_ble_eq_true rfl⟩ rfl rfl hl.1 rfl rfl (Nat.le_of_ble_eq_true rfl) d_MA_govern_285 ⟨Nat.zero_le _, Nat.zero_le _⟩
      clear hq
      refine jk_v hr hA hP hD hS [4, 6] [0, 1, 2, 3, 5] (WR := [(a0, .inr (0, [.ref a1, .ref a2, .ref a3, .ref k0, .int vsz, .int vmd, .int vpc, .int vba, .int vbo, .int vre, .int vti, .int vro, .int vha])), (a1, .inl (E.2.1 0, 1844, .inl vmem)), (a2, .inl (E.2.1 0, 8, .inl vreg)), (a3, .inl (E.2.1 0, 128, .inl vblk)), (k1, .inl (E.2.1 0, 100, .inl ktyp))]) rfl rfl (by decide) (by decide) [0, 1, 2, 3, 5, 4, 6] (WF := [(a0, .inr (0, [.ref a1, .ref a2, .ref a3, .ref k0, .int vsz, .int vmd, .int vpc, .int vba, .int vbo, .int vre, .int vti, .int vro, .int vha])), (a1, .inl (E.2.1 0, 1844, .inl vmem)), (a2, .inl (E.2.1 0, 8, .inl vreg)), (a3, .inl (E.2.1 0, 128, .inl vblk)), (k0, .inr (1, [.ref k1, .ref k2, .int kold, .int kwai, .int ksnt_19])), (k1, .inl (E.2.1 0, 100, .inl ktyp)), (k2, .inl (E.2.1 0, 500, .inl ksen_19))]) rfl (by decide) ?_
      clear hP hD hS
      intro H locs hP hD hS
      clear hr
      refine lv_goto (tgt := 331) J.1 J.2.1 d_MA_govern_288 (by decide) ?_
      refine lv_aload_n J.1 J.2.1 d_MA_govern_331 rfl (lv_at hl 4 rfl) ?_
      refine lv_iload J.1 J.2.1 d_MA_govern_332 (lv_at hl 0 rfl) ?_
      refine jp J hJ hP hD hS 0 rfl rfl i_MA t_MA t_MA_ok n_MA 6 (by decide) gf_MA_44 rfl rfl rfl (Nat.le_of_ble_eq_true rfl) d_MA_govern_334 (WS' := [(a0, .inr (0, [.ref a1, .ref a2, .ref a3, .ref k0, .int vsz, .int vmd, .int (vpc + 2), .int vba, .int vbo, .int vre, .int vti, .int vro, .int vha])), (a1, .inl (E.2.1 0, 1844, .inl vmem)), (a2, .inl (E.2.1 0, 8, .inl vreg)), (a3, .inl (E.2.1 0, 128, .inl vblk)), (k0, .inr (1, [.ref k1, .ref k2, .int kold, .int kwai, .int ksnt_19])), (k1, .inl (E.2.1 0, 100, .inl ktyp)), (k2, .inl (E.2.1 0, 500, .inl ksen_19))]) rfl ?_
      clear hP hD hS
      intro H locs hP hD hS
      have h := Option.some.inj h
      have e_0 := (Prod.mk.inj h).1
      have h := (Prod.mk.inj h).2
      have e_1 := (Prod.mk.inj h).1
      have h := (Prod.mk.inj h).2
      have e_2 := (Prod.mk.inj h).1
      have h := (Prod.mk.inj h).2
      have e_3 := (Prod.mk.inj h).1
      have h := (Prod.mk.inj h).2
      have e_4 := (Prod.mk.inj h).1
      have h := (Prod.mk.inj h).2
      have e_5 := (Prod.mk.inj h).1
      have h := (Prod.mk.inj h).2
      have e_6 := (Prod.mk.inj h).1
      have h := (Prod.mk.inj h).2
      have e_7 := (Prod.mk.inj h).1
      have h := (Prod.mk.inj h).2
      have e_8 := (Prod.mk.inj h).1
      have h := (Prod.mk.inj h).2
      have e_9 := (Prod.mk.inj h).1
      have h := (Prod.mk.inj h).2
      have e_10 := (Prod.mk.inj h).1
      have h := (Prod.mk.inj h).2
      have e_11 := (Prod.mk.inj h).1
      have h := (Prod.mk.inj h).2
      have e_12 := (Prod.mk.inj h).1
      have h := (Prod.mk.inj h).2
      have e_13 := (Prod.mk.inj h).1
      have h := (Prod.mk.inj h).2
      rw [← e_0, ← e_1, ← e_2, ← e_3, ← e_4, ← e_5, ← e_6, ← e_7, ← e_8, ← e_9, ← e_10, ← e_11, ← e_12, ← e_13, ← h]
      exact jr_v J hS hP hD d_MA_govern_337
    replace h := g_f c_17 h
    by_cases c_20 : (x1) = 23
    · replace h := g_t c_20 h
      refine lv_tableIn (off := 204) (tgt := 291) J.1 J.2.1 d_MA_govern_87 (by rw [c_20]; decide) (by rw [c_20]; decide) (by rw [c_20]; rfl) (by decide) ?_
      refine lv_aload_n J.1 J.2.1 d_MA_govern_291 rfl (lv_at hl 4 rfl) ?_
      refine jg J hJ hP 0 rfl rfl i_MA 2 (by decide) gf_MA_18 rfl d_MA_govern_292 ?_
      refine lv_iload J.1 J.2.1 d_MA_govern_295 (lv_at hl 1 rfl) ?_
      refine lv_aload_n J.1 J.2.1 d_MA_govern_297 rfl (lv_at hl 4 rfl) ?_
      refine jg J hJ hP 0 rfl rfl i_MA 0 (by decide) gf_MA_9 rfl d_MA_govern_298 ?_
      refine lv_iload J.1 J.2.1 d_MA_govern_301 (lv_at hl 2 rfl) ?_
      refine lv_bipush (v := 16) J.1 J.2.1 d_MA_govern_303 (by decide) ?_
      replace h := g_ck h
      obtain ⟨k_21, h⟩ := h
      refine va_copyi J.1 J.2.1 (J.2.2.1.trans hl.1.symm) J.2.2.2.2.1 (J.2.2.2.2.2.1 _ gl_MA_110) (J.2.2.2.2.2.1 _ gn_JY_arraycopy) (J.2.2.2.2.2.1 _ gs_JY_arraycopy) (J.2.2.2.2.2.1 _ gini_JY) hJ.1 hP hD hS 3 1 0 0 rfl rfl rfl rfl rfl k_21.1 k_21.2.1 k_21.2.2.1 k_21.2.2.2.1 k_21.2.2.2.2 (fun _ _ => rfl) (Nat.le_of_ble_eq_true rfl) (Nat.le_of_ble_eq_true rfl) d_MA_govern_305 ?_
      clear hP hD hS
      intro H locs hP hD hS
      have hP : va_P E.1 classes [(a0, .inr (0, [.ref a1, .ref a2, .ref a3, .ref k0, .int vsz, .int vmd, .int vpc, .int vba, .int vbo, .int vre, .int vti, .int vro, .int vha])), (a1, .inl (E.2.1 0, 1844, .inl (va_cpy vblk vmem (((vreg x2.toNatClampNeg) &&& 7) * 16).toNatClampNeg (vba + x5).toNatClampNeg (16 : Int32).toNatClampNeg))), (a2, .inl (E.2.1 0, 8, .inl vreg)), (a3, .inl (E.2.1 0, 128, .inl vblk)), (k0, .inr (1, [.ref k1, .ref k2, .int kold, .int kwai, .int ksnt])), (k1, .inl (E.2.1 0, 100, .inl ktyp)), (k2, .inl (E.2.1 0, 500, .inl ksen))] H := hP
      have hD : va_D A [(a0, .inr (0, [.ref a1, .ref a2, .ref a3, .ref k0, .int vsz, .int vmd, .int vpc, .int vba, .int vbo, .int vre, .int vti, .int vro, .int vha])), (a1, .inl (E.2.1 0, 1844, .inl (va_cpy vblk vmem (((vreg x2.toNatClampNeg) &&& 7) * 16).toNatClampNeg (vba + x5).toNatClampNeg (16 : Int32).toNatClampNeg))), (a2, .inl (E.2.1 0, 8, .inl vreg)), (a3, .inl (E.2.1 0, 128, .inl vblk)), (k0, .inr (1, [.ref k1, .ref k2, .int kold, .int kwai, .int ksnt])), (k1, .inl (E.2.1 0, 100, .inl ktyp)), (k2, .inl (E.2.1 0, 500, .inl ksen))] := hD
      refine lv_goto (tgt := 331) J.1 J.2.1 d_MA_govern_308 (by decide) ?_
      refine lv_aload_n J.1 J.2.1 d_MA_govern_331 rfl (lv_at hl 4 rfl) ?_
      refine lv_iload J.1 J.2.1 d_MA_govern_332 (lv_at hl 0 rfl) ?_
      refine jp J hJ hP hD hS 0 rfl rfl i_MA t_MA t_MA_ok n_MA 6 (by decide) gf_MA_44 rfl rfl rfl (Nat.le_of_ble_eq_true rfl) d_MA_govern_334 (WS' := [(a0, .inr (0, [.ref a1, .ref a2, .ref a3, .ref k0, .int vsz, .int vmd, .int (vpc + 2), .int vba, .int vbo, .int vre, .int vti, .int vro, .int vha])), (a1, .inl (E.2.1 0, 1844, .inl (va_cpy vblk vmem (((vreg x2.toNatClampNeg) &&& 7) * 16).toNatClampNeg (vba + x5).toNatClampNeg (16 : Int32).toNatClampNeg))), (a2, .inl (E.2.1 0, 8, .inl vreg)), (a3, .inl (E.2.1 0, 128, .inl vblk)), (k0, .inr (1, [.ref k1, .ref k2, .int kold, .int kwai, .int ksnt])), (k1, .inl (E.2.1 0, 100, .inl ktyp)), (k2, .inl (E.2.1 0, 500, .inl ksen))]) rfl ?_
      clear hP hD hS
      intro H locs hP hD hS
      have h := Option.some.inj h
      have e_0 := (Prod.mk.inj h).1
      have h := (Prod.mk.inj h).2
      have e_1 := (Prod.mk.inj h).1
      have h := (Prod.mk.inj h).2
      have e_2 := (Prod.mk.inj h).1
      have h := (Prod.mk.inj h).2
      have e_3 := (Prod.mk.inj h).1
      have h := (Prod.mk.inj h).2
      have e_4 := (Prod.mk.inj h).1
      have h := (Prod.mk.inj h).2
      have e_5 := (Prod.mk.inj h).1
      have h := (Prod.mk.inj h).2
      have e_6 := (Prod.mk.inj h).1
      have h := (Prod.mk.inj h).2
      have e_7 := (Prod.mk.inj h).1
      have h := (Prod.mk.inj h).2
      have e_8 := (Prod.mk.inj h).1
      have h := (Prod.mk.inj h).2
      have e_9 := (Prod.mk.inj h).1
      have h := (Prod.mk.inj h).2
      have e_10 := (Prod.mk.inj h).1
      have h := (Prod.mk.inj h).2
      have e_11 := (Prod.mk.inj h).1
      have h := (Prod.mk.inj h).2
      have e_12 := (Prod.mk.inj h).1
      have h := (Prod.mk.inj h).2
      have e_13 := (Prod.mk.inj h).1
      have h := (Prod.mk.inj h).2
      rw [← e_0, ← e_1, ← e_2, ← e_3, ← e_4, ← e_5, ← e_6, ← e_7, ← e_8, ← e_9, ← e_10, ← e_11, ← e_12, ← e_13, ← h]
      exact jr_v J hS hP hD d_MA_govern_337
    replace h := g_f c_20 h
    by_cases c_22 : (x1) = 24
    · replace h := g_t c_22 h
      refine lv_tableIn (off := 224) (tgt := 311) J.1 J.2.1 d_MA_govern_87 (by rw [c_22]; decide) (by rw [c_22]; decide) (by rw [c_22]; rfl) (by decide) ?_
      refine lv_aload_n J.1 J.2.1 d_MA_govern_311 rfl (lv_at hl 4 rfl) ?_
      refine jg J hJ hP 0 rfl rfl i_MA 0 (by decide) gf_MA_9 rfl d_MA_govern_312 ?_
      refine lv_iload J.1 J.2.1 d_MA_govern_315 (lv_at hl 2 rfl) ?_
      refine lv_aload_n J.1 J.2.1 d_MA_govern_317 rfl (lv_at hl 4 rfl) ?_
      refine jg J hJ hP 0 rfl rfl i_MA 2 (by decide) gf_MA_18 rfl d_MA_govern_318 ?_
      refine lv_iload J.1 J.2.1 d_MA_govern_321 (lv_at hl 1 rfl) ?_
      refine lv_bipush (v := 16) J.1 J.2.1 d_MA_govern_323 (by decide) ?_
      replace h := g_ck h
      obtain ⟨k_23, h⟩ := h
      refine va_copyi J.1 J.2.1 (J.2.2.1.trans hl.1.symm) J.2.2.2.2.1 (J.2.2.2.2.2.1 _ gl_MA_110) (J.2.2.2.2.2.1 _ gn_JY_arraycopy) (J.2.2.2.2.2.1 _ gs_JY_arraycopy) (J.2.2.2.2.2.1 _ gini_JY) hJ.1 hP hD hS 1 3 0 0 rfl rfl rfl rfl rfl k_23.1 k_23.2.1 k_23.2.2.1 k_23.2.2.2.1 k_23.2.2.2.2 (fun _ _ => rfl) (Nat.le_of_ble_eq_true rfl) (Nat.le_of_ble_eq_true rfl) d_MA_govern_325 ?_
      clear hP hD hS
      intro H locs hP hD hS
      have hP : va_P E.1 classes [(a0, .inr (0, [.ref a1, .ref a2, .ref a3, .ref k0, .int vsz, .int vmd, .int vpc, .int vba, .int vbo, .int vre, .int vti, .int vro, .int vha])), (a1, .inl (E.2.1 0, 1844, .inl vmem)), (a2, .inl (E.2.1 0, 8, .inl vreg)), (a3, .inl (E.2.1 0, 128, .inl (va_cpy vmem vblk (vba + x5).toNatClampNeg (((vreg x2.toNatClampNeg) &&& 7) * 16).toNatClampNeg (16 : Int32).toNatClampNeg))), (k0, .inr (1, [.ref k1, .ref k2, .int kold, .int kwai, .int ksnt])), (k1, .inl (E.2.1 0, 100, .inl ktyp)), (k2, .inl (E.2.1 0, 500, .inl ksen))] H := hP
      have hD : va_D A [(a0, .inr (0, [.ref a1, .ref a2, .ref a3, .ref k0, .int vsz, .int vmd, .int vpc, .int vba, .int vbo, .int vre, .int vti, .int vro, .int vha])), (a1, .inl (E.2.1 0, 1844, .inl vmem)), (a2, .inl (E.2.1 0, 8, .inl vreg)), (a3, .inl (E.2.1 0, 128, .inl (va_cpy vmem vblk (vba + x5).toNatClampNeg (((vreg x2.toNatClampNeg) &&& 7) * 16).toNatClampNeg (16 : Int32).toNatClampNeg))), (k0, .inr (1, [.ref k1, .ref k2, .int kold, .int kwai, .int ksnt])), (k1, .inl (E.2.1 0, 100, .inl ktyp)), (k2, .inl (E.2.1 0, 500, .inl ksen))] := hD
      refine lv_goto (tgt := 331) J.1 J.2.1 d_MA_govern_328 (by decide) ?_
      refine lv_aload_n J.1 J.2.1 d_MA_govern_331 rfl (lv_at hl 4 rfl) ?_
      refine lv_iload J.1 J.2.1 d_MA_govern_332 (lv_at hl 0 rfl) ?_
      refine jp J hJ hP hD hS 0 rfl rfl i_MA t_MA t_MA_ok n_MA 6 (by decide) gf_MA_44 rfl rfl rfl (Nat.le_of_ble_eq_true rfl) d_MA_govern_334 (WS' := [(a0, .inr (0, [.ref a1, .ref a2, .ref a3, .ref k0, .int vsz, .int vmd, .int (vpc + 2), .int vba, .int vbo, .int vre, .int vti, .int vro, .int vha])), (a1, .inl (E.2.1 0, 1844, .inl vmem)), (a2, .inl (E.2.1 0, 8, .inl vreg)), (a3, .inl (E.2.1 0, 128, .inl (va_cpy vmem vblk (vba + x5).toNatClampNeg (((vreg x2.toNatClampNeg) &&& 7) * 16).toNatClampNeg (16 : Int32).toNatClampNeg))), (k0, .inr (1, [.ref k1, .ref k2, .int kold, .int kwai, .int ksnt])), (k1, .inl (E.2.1 0, 100, .inl ktyp)), (k2, .inl (E.2.1 0, 500, .inl ksen))]) rfl ?_
      clear hP hD hS
      intro H locs hP hD hS
      have h := Option.some.inj h
      have e_0 := (Prod.mk.inj h).1
      have h := (Prod.mk.inj h).2
      have e_1 := (Prod.mk.inj h).1
      have h := (Prod.mk.inj h).2
      have e_2 := (Prod.mk.inj h).1
      have h := (Prod.mk.inj h).2
      have e_3 := (Prod.mk.inj h).1
      have h := (Prod.mk.inj h).2
      have e_4 := (Prod.mk.inj h).1
      have h := (Prod.mk.inj h).2
      have e_5 := (Prod.mk.inj h).1
      have h := (Prod.mk.inj h).2
      have e_6 := (Prod.mk.inj h).1
      have h := (Prod.mk.inj h).2
      have e_7 := (Prod.mk.inj h).1
      have h := (Prod.mk.inj h).2
      have e_8 := (Prod.mk.inj h).1
      have h := (Prod.mk.inj h).2
      have e_9 := (Prod.mk.inj h).1
      have h := (Prod.mk.inj h).2
      have e_10 := (Prod.mk.inj h).1
      have h := (Prod.mk.inj h).2
      have e_11 := (Prod.mk.inj h).1
      have h := (Prod.mk.inj h).2
      have e_12 := (Prod.mk.inj h).1
      have h := (Prod.mk.inj h).2
      have e_13 := (Prod.mk.inj h).1
      have h := (Prod.mk.inj h).2
      rw [← e_0, ← e_1, ← e_2, ← e_3, ← e_4, ← e_5, ← e_6, ← e_7, ← e_8, ← e_9, ← e_10, ← e_11, ← e_12, ← e_13, ← h]
      exact jr_v J hS hP hD d_MA_govern_337
    replace h := g_f c_22 h
    refine jt_df (tgt := 331) J.1 J.2.1 d_MA_govern_87 (jt_or (lo := 0) (hi := 24) (fun q q2 => by
        have e0 := lv_neT c_5 (a := 0) (by decide)
        have e1 := lv_neT c_6 (a := 17) (by decide)
        have e2 := lv_neT c_8 (a := 18) (by decide)
        have e3 := lv_neT c_10 (a := 19) (by decide)
        have e4 := lv_neT c_12 (a := 20) (by decide)
        have e5 := lv_neT c_14 (a := 21) (by decide)
        have e6 := lv_neT c_17 (a := 22) (by decide)
        have e7 := lv_neT c_20 (a := 23) (by decide)
        have e8 := lv_neT c_22 (a := 24) (by decide)
        have e : (x1).toInt = 1 ∨ (x1).toInt = 2 ∨ (x1).toInt = 3 ∨ (x1).toInt = 4 ∨ (x1).toInt = 5 ∨ (x1).toInt = 6 ∨ (x1).toInt = 7 ∨ (x1).toInt = 8 ∨ (x1).toInt = 9 ∨ (x1).toInt = 10 ∨ (x1).toInt = 11 ∨ (x1).toInt = 12 ∨ (x1).toInt = 13 ∨ (x1).toInt = 14 ∨ (x1).toInt = 15 ∨ (x1).toInt = 16 := by omega
        rcases e with e | e | e | e | e | e | e | e | e | e | e | e | e | e | e | e <;> rw [e] <;> rfl)) (by decide) ?_
    refine lv_aload_n J.1 J.2.1 d_MA_govern_331 rfl (lv_at hl 4 rfl) ?_
    refine lv_iload J.1 J.2.1 d_MA_govern_332 (lv_at hl 0 rfl) ?_
    refine jp J hJ hP hD hS 0 rfl rfl i_MA t_MA t_MA_ok n_MA 6 (by decide) gf_MA_44 rfl rfl rfl (Nat.le_of_ble_eq_true rfl) d_MA_govern_334 (WS' := [(a0, .inr (0, [.ref a1, .ref a2, .ref a3, .ref k0, .int vsz, .int vmd, .int (vpc + 2), .int vba, .int vbo, .int vre, .int vti, .int vro, .int vha])), (a1, .inl (E.2.1 0, 1844, .inl vmem)), (a2, .inl (E.2.1 0, 8, .inl vreg)), (a3, .inl (E.2.1 0, 128, .inl vblk)), (k0, .inr (1, [.ref k1, .ref k2, .int kold, .int kwai, .int ksnt])), (k1, .inl (E.2.1 0, 100, .inl ktyp)), (k2, .inl (E.2.1 0, 500, .inl ksen))]) rfl ?_
    clear hP hD hS
    intro H locs hP hD hS
    have h := Option.some.inj h
    have e_0 := (Prod.mk.inj h).1
    have h := (Prod.mk.inj h).2
    have e_1 := (Prod.mk.inj h).1
    have h := (Prod.mk.inj h).2
    have e_2 := (Prod.mk.inj h).1
    have h := (Prod.mk.inj h).2
    have e_3 := (Prod.mk.inj h).1
    have h := (Prod.mk.inj h).2
    have e_4 := (Prod.mk.inj h).1
    have h := (Prod.mk.inj h).2
    have e_5 := (Prod.mk.inj h).1
    have h := (Prod.mk.inj h).2
    have e_6 := (Prod.mk.inj h).1
    have h := (Prod.mk.inj h).2
    have e_7 := (Prod.mk.inj h).1
    have h := (Prod.mk.inj h).2
    have e_8 := (Prod.mk.inj h).1
    have h := (Prod.mk.inj h).2
    have e_9 := (Prod.mk.inj h).1
    have h := (Prod.mk.inj h).2
    have e_10 := (Prod.mk.inj h).1
    have h := (Prod.mk.inj h).2
    have e_11 := (Prod.mk.inj h).1
    have h := (Prod.mk.inj h).2
    have e_12 := (Prod.mk.inj h).1
    have h := (Prod.mk.inj h).2
    have e_13 := (Prod.mk.inj h).1
    have h := (Prod.mk.inj h).2
    rw [← e_0, ← e_1, ← e_2, ← e_3, ← e_4, ← e_5, ← e_6, ← e_7, ← e_8, ← e_9, ← e_10, ← e_11, ← e_12, ← e_13, ← h]
    exact jr_v J hS hP hD d_MA_govern_337
  · replace h := g_f c_3 h
    refine lv_aload_n J.1 J.2.1 d_MA_govern_43 rfl (lv_at hl 1 rfl) ?_
    refine lv_iconst (v := 2) J.1 J.2.1 d_MA_govern_44 (by decide) ?_
    refine lv_iload J.1 J.2.1 d_MA_govern_45 (lv_at hl 0 rfl) ?_
    refine lv_aload_n J.1 J.2.1 d_MA_govern_47 rfl (lv_at hl 1 rfl) ?_
    refine jg J hJ hP 0 rfl rfl i_MA 6 (by decide) gf_MA_44 rfl d_MA_govern_48 ?_
    replace h := g_bd h
    obtain ⟨⟨vmd_24, vpc_24, vba_24, vbo_24, vre_24, vmem_24⟩, q_24, h⟩ := h
    try dsimp only at h
    have hq := ct_MA_trap l E a0 a1 a2 a3 k0 H.size vsz vmd vpc vba vbo vre vti vro vha vmem 2 r_2 vpc vmd_24 vpc_24 vba_24 vbo_24 vre_24 vmem_24 q_24
    have hr := jrunV (p := p) (e := e) (below := below) (R := ({ frames := 2, cells := 0, slots := 0, locals := 100 })) (cells := 0) (slots := 0) (As := [.int 2, .int r_2, .int vpc]) (rest := []) J hJ hA hZ hP hD hS hq [0, 1] rfl (by decide) gl_MA_66 gi_MA_trap gsel_MA_trap gini_MA gc_MA_trap hd_MA_trap ⟨rfl, rfl, Nat.le_of_ble_eq_true rfl, Nat.le_of_ble_eq_true rfl⟩ rfl rfl hl.1 rfl rfl (Nat.le_of_ble_eq_true rfl) d_MA_govern_51 ⟨Nat.zero_le _, Nat.zero_le _⟩
    clear hq
    refine jk_v hr hA hP hD hS [0, 1] [2, 3, 4, 5, 6] (WR := [(a2, .inl (E.2.1 0, 8, .inl vreg)), (a3, .inl (E.2.1 0, 128, .inl vblk)), (k0, .inr (1, [.ref k1, .ref k2, .int kold, .int kwai, .int ksnt])), (k1, .inl (E.2.1 0, 100, .inl ktyp)), (k2, .inl (E.2.1 0, 500, .inl ksen))]) rfl rfl (by decide) (by decide) [5, 6, 0, 1, 2, 3, 4] (WF := [(a0, .inr (0, [.ref a1, .ref a2, .ref a3, .ref k0, .int vsz, .int vmd_24, .int vpc_24, .int vba_24, .int vbo_24, .int vre_24, .int vti, .int vro, .int vha])), (a1, .inl (E.2.1 0, 1844, .inl vmem_24)), (a2, .inl (E.2.1 0, 8, .inl vreg)), (a3, .inl (E.2.1 0, 128, .inl vblk)), (k0, .inr (1, [.ref k1, .ref k2, .int kold, .int kwai, .int ksnt])), (k1, .inl (E.2.1 0, 100, .inl ktyp)), (k2, .inl (E.2.1 0, 500, .inl ksen))]) rfl (by decide) ?_
    clear hP hD hS
    intro H locs hP hD hS
    clear hr
    have h := Option.some.inj h
    have e_0 := (Prod.mk.inj h).1
    have h := (Prod.mk.inj h).2
    have e_1 := (Prod.mk.inj h).1
    have h := (Prod.mk.inj h).2
    have e_2 := (Prod.mk.inj h).1
    have h := (Prod.mk.inj h).2
    have e_3 := (Prod.mk.inj h).1
    have h := (Prod.mk.inj h).2
    have e_4 := (Prod.mk.inj h).1
    have h := (Prod.mk.inj h).2
    have e_5 := (Prod.mk.inj h).1
    have h := (Prod.mk.inj h).2
    have e_6 := (Prod.mk.inj h).1
    have h := (Prod.mk.inj h).2
    have e_7 := (Prod.mk.inj h).1
    have h := (Prod.mk.inj h).2
    have e_8 := (Prod.mk.inj h).1
    have h := (Prod.mk.inj h).2
    have e_9 := (Prod.mk.inj h).1
    have h := (Prod.mk.inj h).2
    have e_10 := (Prod.mk.inj h).1
    have h := (Prod.mk.inj h).2
    have e_11 := (Prod.mk.inj h).1
    have h := (Prod.mk.inj h).2
    have e_12 := (Prod.mk.inj h).1
    have h := (Prod.mk.inj h).2
    have e_13 := (Prod.mk.inj h).1
    have h := (Prod.mk.inj h).2
    rw [← e_0, ← e_1, ← e_2, ← e_3, ← e_4, ← e_5, ← e_6, ← e_7, ← e_8, ← e_9, ← e_10, ← e_11, ← e_12, ← e_13, ← h]
    exact jr_v J hS hP hD d_MA_govern_54
set_option maxHeartbeats 4000000 in
set_option maxRecDepth 100000 in
theorem ct_MA_govern (l : Launch) (E : jz_E) (a0 a1 a2 a3 k0 k1 k2 : Nat) (sz : Nat) (vsz : Int32) (vmd : Int32) (vpc : Int32) (vba : Int32) (vbo : Int32) (vre : Int32) (vti : Int32) (vro : Int32) (vha : Int32) (vmem : Nat → Int32) (vreg : Nat → Int32) (vblk : Nat → Int32) (kold : Int32) (kwai : Int32) (ksnt : Int32) (ktyp : Nat → Int32) (ksen : Nat → Int32) (p1 : Int32) (p2 : Int32) (p3 : Int32) (p4 : Int32) (o_vmd : Int32) (o_vpc : Int32) (o_vba : Int32) (o_vbo : Int32) (o_vre : Int32) (o_vti : Int32) (o_vro : Int32) (o_vha : Int32) (o_vmem : Nat → Int32) (o_vreg : Nat → Int32) (o_vblk : Nat → Int32) (o_kold : Int32) (o_kwai : Int32) (o_ksnt : Int32) (o_ksen : Nat → Int32)  (h : f_MA_govern vsz vmd vpc vba vbo vre vti vro vha vmem vreg vblk kold kwai ksnt ktyp ksen p1 p2 p3 p4 = some (o_vmd, o_vpc, o_vba, o_vbo, o_vre, o_vti, o_vro, o_vha, o_vmem, o_vreg, o_vblk, o_kold, o_kwai, o_ksnt, o_ksen)) : CTv l E y_MA_govern c_MA_govern 10 none ({ frames := 2, cells := 0, slots := 0, locals := 100 }) [.ref a0, .int p1, .int p2, .int p3, .int p4] [(a0, .inr (0, [.ref a1, .ref a2, .ref a3, .ref k0, .int vsz, .int vmd, .int vpc, .int vba, .int vbo, .int vre, .int vti, .int vro, .int vha])), (a1, .inl (E.2.1 0, 1844, .inl vmem)), (a2, .inl (E.2.1 0, 8, .inl vreg)), (a3, .inl (E.2.1 0, 128, .inl vblk)), (k0, .inr (1, [.ref k1, .ref k2, .int kold, .int kwai, .int ksnt])), (k1, .inl (E.2.1 0, 100, .inl ktyp)), (k2, .inl (E.2.1 0, 500, .inl ksen))] sz [(a0, .inr (0, [.ref a1, .ref a2, .ref a3, .ref k0, .int vsz, .int o_vmd, .int o_vpc, .int o_vba, .int o_vbo, .int o_vre, .int o_vti, .int o_vro, .int o_vha])), (a1, .inl (E.2.1 0, 1844, .inl o_vmem)), (a2, .inl (E.2.1 0, 8, .inl o_vreg)), (a3, .inl (E.2.1 0, 128, .inl o_vblk)), (k0, .inr (1, [.ref k1, .ref k2, .int o_kold, .int o_kwai, .int o_ksnt])), (k1, .inl (E.2.1 0, 100, .inl ktyp)), (k2, .inl (E.2.1 0, 500, .inl o_ksen))] := by
  refine jw (by decide +kernel) (Nat.le_of_ble_eq_true rfl) ?_
  intro p e s m below meth c A ls J hJ hAe hsz hA hZ hP hD hl
  rw [← hAe]
  have hS : va_S A s.heap s.heap [] := va_S.rf
  have hl : lv_has ls 10 [(0, .ref a0), (1, .int p1), (2, .int p2), (3, .int p3), (4, .int p4)] := hl
  unfold f_MA_govern at h
  refine lv_iload_n J.1 J.2.1 d_MA_govern_0 rfl (lv_at hl 1 rfl) ?_
  refine lv_bipush (v := 23) J.1 J.2.1 d_MA_govern_1 (by decide) ?_
  refine lv_icmp_ge (tgt := 11) J.1 J.2.1 d_MA_govern_3 (by decide) (fun c_25 => ?_) (fun c_25 => ?_)
  · replace h := g_t c_25 h
    refine lv_aload_n J.1 J.2.1 d_MA_govern_11 rfl (lv_at hl 0 rfl) ?_
    refine jg J hJ hP 0 rfl rfl i_MA 1 (by decide) gf_MA_15 rfl d_MA_govern_12 ?_
    refine lv_iload_n J.1 J.2.1 d_MA_govern_15 rfl (lv_at hl 3 rfl) ?_
    replace h := g_ck h
    obtain ⟨k_26, h⟩ := h
    refine jai J hJ hP 2 rfl k_26 d_MA_govern_16 ?_
    refine lv_iload J.1 J.2.1 d_MA_govern_17 (lv_at hl 4 rfl) ?_
    refine lv_iadd J.1 J.2.1 d_MA_govern_19 ?_
    refine lv_ldc (v := 65535) J.1 J.2.1 J.2.2.2.2.1 (J.2.2.2.2.2.1 _ gk_MA_70) d_MA_govern_20 ?_
    refine lv_iand J.1 J.2.1 d_MA_govern_22 ?_
    refine lv_istore (lv' := [(5, .int (((vreg p3.toNatClampNeg) + p4) &&& 65535)), (0, .ref a0), (1, .int p1), (2, .int p2), (3, .int p3), (4, .int p4)]) J.1 J.2.1 d_MA_govern_23 hl (by decide) rfl ?_
    clear hl
    intro ls hl
    exact kb_MA_govern_25 J hJ hA hZ _ _ _ _ _ _ _ _ _ _ _ _ _ _ _ _ _ _ _ _ _ _ _ h hP hD hS (lv_sub hl [1, 2, 3, 0] rfl)
  · replace h := g_f c_25 h
    refine lv_iload J.1 J.2.1 d_MA_govern_6 (lv_at hl 4 rfl) ?_
    refine lv_goto (tgt := 23) J.1 J.2.1 d_MA_govern_8 (by decide) ?_
    refine lv_istore (lv' := [(5, .int p4), (0, .ref a0), (1, .int p1), (2, .int p2), (3, .int p3), (4, .int p4)]) J.1 J.2.1 d_MA_govern_23 hl (by decide) rfl ?_
    clear hl
    intro ls hl
    exact kb_MA_govern_25 J hJ hA hZ _ _ _ _ _ _ _ _ _ _ _ _ _ _ _ _ _ _ _ _ _ _ _ h hP hD hS (lv_sub hl [1, 2, 3, 0] rfl)

theorem hd_MA_step : y_MA_step.cls ≠ "java/lang/invoke/MethodHandle" ∧ y_MA_step.cls ≠ "java/lang/invoke/VarHandle" ∧ (parseMethodDescriptor y_MA_step.desc).map (fun d => d.parameters.length) = some 0 := by decide +kernel
def b_MA_step_212 (vsz : Int32) (vmd : Int32) (vpc : Int32) (vba : Int32) (vbo : Int32) (vre : Int32) (vti : Int32) (vro : Int32) (vha : Int32) (vmem : Nat → Int32) (vreg : Nat → Int32) (vblk : Nat → Int32) (kold : Int32) (kwai : Int32) (ksnt : Int32) (ktyp : Nat → Int32) (ksen : Nat → Int32) (x1 : Int32) (x2 : Int32) (x3 : Int32) (x4 : Int32) (x5 : Int32) : Option (Int32 × Int32 × Int32 × Int32 × Int32 × Int32 × Int32 × Int32 × (Nat → Int32) × (Nat → Int32) × (Nat → Int32) × Int32 × Int32 × Int32 × (Nat → Int32)) := (if x3 = (16 : Int32) then ((f_MA_trap vsz vmd vba vbo vmem 3 x2 (vpc + 2)).bind fun (vmd_5, vpc_5, vba_5, vbo_5, vre_5, vmem_5) => (some (vmd_5, vpc_5, vba_5, vbo_5, vre_5, vti, vro, vha, vmem_5, vreg, vblk, kold, kwai, ksnt, ksen))) else (if vmd = (1 : Int32) then ((f_MA_trap vsz vmd vba vbo vmem 1 x1 vpc).bind fun (vmd_4, vpc_4, vba_4, vbo_4, vre_4, vmem_4) => (some (vmd_4, vpc_4, vba_4, vbo_4, vre_4, vti, vro, vha, vmem_4, vreg, vblk, kold, kwai, ksnt, ksen))) else ((f_MA_govern vsz vmd vpc vba vbo vre vti vro vha vmem vreg vblk kold kwai ksnt ktyp ksen x3 x4 x5 x2).bind fun (vmd_3, vpc_3, vba_3, vbo_3, vre_3, vti_3, vro_3, vha_3, vmem_3, vreg_3, vblk_3, kold_3, kwai_3, ksnt_3, ksen_3) => (some (vmd_3, vpc_3, vba_3, vbo_3, vre_3, vti_3, vro_3, vha_3, vmem_3, vreg_3, vblk_3, kold_3, kwai_3, ksnt_3, ksen_3)))))
def b_MA_step_189 (vsz : Int32) (vmd : Int32) (vpc : Int32) (vba : Int32) (vbo : Int32) (vre : Int32) (vti : Int32) (vro : Int32) (vha : Int32) (vmem : Nat → Int32) (vreg : Nat → Int32) (vblk : Nat → Int32) (kold : Int32) (kwai : Int32) (ksnt : Int32) (ktyp : Nat → Int32) (ksen : Nat → Int32) (x1 : Int32) (x2 : Int32) (x3 : Int32) (x4 : Int32) (x5 : Int32) : Option (Int32 × Int32 × Int32 × Int32 × Int32 × Int32 × Int32 × Int32 × (Nat → Int32) × (Nat → Int32) × (Nat → Int32) × Int32 × Int32 × Int32 × (Nat → Int32)) := (if x3 ≤ (0 : Int32) then b_MA_step_212 vsz vmd vpc vba vbo vre vti vro vha vmem vreg vblk kold kwai ksnt ktyp ksen x1 x2 x3 x4 x5 else (if (16 : Int32) ≤ x3 then b_MA_step_212 vsz vmd vpc vba vbo vre vti vro vha vmem vreg vblk kold kwai ksnt ktyp ksen x1 x2 x3 x4 x5 else ((f_MA_compute vmd vpc vti vro vreg x3 x4 x5 x2).bind fun (vpc_8, vti_8, vro_8, vreg_8) => (some (vmd, vpc_8, vba, vbo, vre, vti_8, vro_8, vha, vmem, vreg_8, vblk, kold, kwai, ksnt, ksen)))))
def b_MA_step_31 (vsz : Int32) (vmd : Int32) (vpc : Int32) (vba : Int32) (vbo : Int32) (vre : Int32) (vti : Int32) (vro : Int32) (vha : Int32) (vmem : Nat → Int32) (vreg : Nat → Int32) (vblk : Nat → Int32) (kold : Int32) (kwai : Int32) (ksnt : Int32) (ktyp : Nat → Int32) (ksen : Nat → Int32) : Option (Int32 × Int32 × Int32 × Int32 × Int32 × Int32 × Int32 × Int32 × (Nat → Int32) × (Nat → Int32) × (Nat → Int32) × Int32 × Int32 × Int32 × (Nat → Int32)) := (if (vpc + 1) < vre then (if ck (vba + vpc) 1844 then (if ck ((vba + vpc) + 1) 1844 then (if ((vmem (vba + vpc).toNatClampNeg) >>> (6 &&& 31)) ≤ (24 : Int32) then (if ((vmem (vba + vpc).toNatClampNeg) >>> (6 &&& 31)) < (2 : Int32) then b_MA_step_189 vsz vmd vpc vba vbo vre vti vro vha vmem vreg vblk kold kwai ksnt ktyp ksen (vmem (vba + vpc).toNatClampNeg) (vmem ((vba + vpc) + 1).toNatClampNeg) ((vmem (vba + vpc).toNatClampNeg) >>> (6 &&& 31)) (((vmem (vba + vpc).toNatClampNeg) >>> (3 &&& 31)) &&& 7) ((vmem (vba + vpc).toNatClampNeg) &&& 7) else (if (5 : Int32) < ((vmem (vba + vpc).toNatClampNeg) >>> (6 &&& 31)) then b_MA_step_189 vsz vmd vpc vba vbo vre vti vro vha vmem vreg vblk kold kwai ksnt ktyp ksen (vmem (vba + vpc).toNatClampNeg) (vmem ((vba + vpc) + 1).toNatClampNeg) ((vmem (vba + vpc).toNatClampNeg) >>> (6 &&& 31)) (((vmem (vba + vpc).toNatClampNeg) >>> (3 &&& 31)) &&& 7) ((vmem (vba + vpc).toNatClampNeg) &&& 7) else (if (4 : Int32) ≤ ((vmem (vba + vpc).toNatClampNeg) >>> (6 &&& 31)) then (if ck ((vmem (vba + vpc).toNatClampNeg) &&& 7) 8 then ((f_MA_access vsz vmd vpc vba vbo vre vti vro vmem vreg ((vmem (vba + vpc).toNatClampNeg) >>> (6 &&& 31)) (((vmem (vba + vpc).toNatClampNeg) >>> (3 &&& 31)) &&& 7) (((vreg ((vmem (vba + vpc).toNatClampNeg) &&& 7).toNatClampNeg) + (vmem ((vba + vpc) + 1).toNatClampNeg)) &&& 65535)).bind fun (vmd_17, vpc_17, vba_17, vbo_17, vre_17, vti_17, vro_17, vmem_17, vreg_17) => (some (vmd_17, vpc_17, vba_17, vbo_17, vre_17, vti_17, vro_17, vha, vmem_17, vreg_17, vblk, kold, kwai, ksnt, ksen))) else none) else ((f_MA_access vsz vmd vpc vba vbo vre vti vro vmem vreg ((vmem (vba + vpc).toNatClampNeg) >>> (6 &&& 31)) (((vmem (vba + vpc).toNatClampNeg) >>> (3 &&& 31)) &&& 7) (vmem ((vba + vpc) + 1).toNatClampNeg)).bind fun (vmd_18, vpc_18, vba_18, vbo_18, vre_18, vti_18, vro_18, vmem_18, vreg_18) => (some (vmd_18, vpc_18, vba_18, vbo_18, vre_18, vti_18, vro_18, vha, vmem_18, vreg_18, vblk, kold, kwai, ksnt, ksen)))))) else ((f_MA_trap vsz vmd vba vbo vmem 5 (vmem (vba + vpc).toNatClampNeg) vpc).bind fun (vmd_19, vpc_19, vba_19, vbo_19, vre_19, vmem_19) => (some (vmd_19, vpc_19, vba_19, vbo_19, vre_19, vti, vro, vha, vmem_19, vreg, vblk, kold, kwai, ksnt, ksen)))) else none) else none) else (if vre ≤ vpc then ((f_MA_trap vsz vmd vba vbo vmem 2 vpc vpc).bind fun (vmd_21, vpc_21, vba_21, vbo_21, vre_21, vmem_21) => (some (vmd_21, vpc_21, vba_21, vbo_21, vre_21, vti, vro, vha, vmem_21, vreg, vblk, kold, kwai, ksnt, ksen))) else ((f_MA_trap vsz vmd vba vbo vmem 2 (vpc + 1) vpc).bind fun (vmd_22, vpc_22, vba_22, vbo_22, vre_22, vmem_22) => (some (vmd_22, vpc_22, vba_22, vbo_22, vre_22, vti, vro, vha, vmem_22, vreg, vblk, kold, kwai, ksnt, ksen)))))
def f_MA_step (vsz : Int32) (vmd : Int32) (vpc : Int32) (vba : Int32) (vbo : Int32) (vre : Int32) (vti : Int32) (vro : Int32) (vha : Int32) (vmem : Nat → Int32) (vreg : Nat → Int32) (vblk : Nat → Int32) (kold : Int32) (kwai : Int32) (ksnt : Int32) (ktyp : Nat → Int32) (ksen : Nat → Int32) : Option (Int32 × Int32 × Int32 × Int32 × Int32 × Int32 × Int32 × Int32 × (Nat → Int32) × (Nat → Int32) × (Nat → Int32) × Int32 × Int32 × Int32 × (Nat → Int32)) := (if vmd = (1 : Int32) then (if vro = (0 : Int32) then b_MA_step_31 vsz vmd vpc vba vbo vre vti vro vha vmem vreg vblk kold kwai ksnt ktyp ksen else ((f_MA_trap vsz vmd vba vbo vmem 4 0 vpc).bind fun (vmd_25, vpc_25, vba_25, vbo_25, vre_25, vmem_25) => (some (vmd_25, vpc_25, vba_25, vbo_25, vre_25, vti, 0, vha, vmem_25, vreg, vblk, kold, kwai, ksnt, ksen)))) else b_MA_step_31 vsz vmd vpc vba vbo vre vti vro vha vmem vreg vblk kold kwai ksnt ktyp ksen)
set_option maxHeartbeats 4000000 in
set_option maxRecDepth 100000 in
theorem kb_MA_step_212 {p : Program} {l : Launch} {e : Env} {s : State} {m : MethodId} {below : List Frame} {meth : Method} {c : Code} {A : Nat → Prop} {E : jz_E} {a0 a1 a2 a3 k0 k1 k2 : Nat} {o_vmd : Int32} {o_vpc : Int32} {o_vba : Int32} {o_vbo : Int32} {o_vre : Int32} {o_vti : Int32} {o_vro : Int32} {o_vha : Int32} {o_vmem : Nat → Int32} {o_vreg : Nat → Int32} {o_vblk : Nat → Int32} {o_kold : Int32} {o_kwai : Int32} {o_ksnt : Int32} {o_ksen : Nat → Int32} (J : JC p s m ([.ref a0] : List Value).toArray meth c c_MA_step 6 none y_MA_step.cls) (hJ : jE E s) (hA : ∀ q : Nat, s.heap.size ≤ q → A q) (hZ : jz_ok E A s s.heap) : ∀ (vsz : Int32) (vmd : Int32) (vpc : Int32) (vba : Int32) (vbo : Int32) (vre : Int32) (vti : Int32) (vro : Int32) (vha : Int32) (vmem : Nat → Int32) (vreg : Nat → Int32) (vblk : Nat → Int32) (kold : Int32) (kwai : Int32) (ksnt : Int32) (ktyp : Nat → Int32) (ksen : Nat → Int32) (x1 : Int32) (x2 : Int32) (x3 : Int32) (x4 : Int32) (x5 : Int32) (H : Heap) (locs : List Loc) (ls : Array Slot), b_MA_step_212 vsz vmd vpc vba vbo vre vti vro vha vmem vreg vblk kold kwai ksnt ktyp ksen x1 x2 x3 x4 x5 = some (o_vmd, o_vpc, o_vba, o_vbo, o_vre, o_vti, o_vro, o_vha, o_vmem, o_vreg, o_vblk, o_kold, o_kwai, o_ksnt, o_ksen) → va_P E.1 classes [(a0, .inr (0, [.ref a1, .ref a2, .ref a3, .ref k0, .int vsz, .int vmd, .int vpc, .int vba, .int vbo, .int vre, .int vti, .int vro, .int vha])), (a1, .inl (E.2.1 0, 1844, .inl vmem)), (a2, .inl (E.2.1 0, 8, .inl vreg)), (a3, .inl (E.2.1 0, 128, .inl vblk)), (k0, .inr (1, [.ref k1, .ref k2, .int kold, .int kwai, .int ksnt])), (k1, .inl (E.2.1 0, 100, .inl ktyp)), (k2, .inl (E.2.1 0, 500, .inl ksen))] H → va_D A [(a0, .inr (0, [.ref a1, .ref a2, .ref a3, .ref k0, .int vsz, .int vmd, .int vpc, .int vba, .int vbo, .int vre, .int vti, .int vro, .int vha])), (a1, .inl (E.2.1 0, 1844, .inl vmem)), (a2, .inl (E.2.1 0, 8, .inl vreg)), (a3, .inl (E.2.1 0, 128, .inl vblk)), (k0, .inr (1, [.ref k1, .ref k2, .int kold, .int kwai, .int ksnt])), (k1, .inl (E.2.1 0, 100, .inl ktyp)), (k2, .inl (E.2.1 0, 500, .inl ksen))] → va_S A s.heap H locs → lv_has ls 6 [(0, .ref a0), (1, .int x1), (2, .int x2), (3, .int x3), (4, .int x4), (5, .int x5)] → W p l e ({ frames := 3, cells := 0, slots := 0, locals := 129 }) s m ([.ref a0] : List Value).toArray below meth c H locs 0 0 (MQ below (va_Qv (fun (u : va_W) => u = [(a0, .inr (0, [.ref a1, .ref a2, .ref a3, .ref k0, .int vsz, .int o_vmd, .int o_vpc, .int o_vba, .int o_vbo, .int o_vre, .int o_vti, .int o_vro, .int o_vha])), (a1, .inl (E.2.1 0, 1844, .inl o_vmem)), (a2, .inl (E.2.1 0, 8, .inl o_vreg)), (a3, .inl (E.2.1 0, 128, .inl o_vblk)), (k0, .inr (1, [.ref k1, .ref k2, .int o_kold, .int o_kwai, .int o_ksnt])), (k1, .inl (E.2.1 0, 100, .inl ktyp)), (k2, .inl (E.2.1 0, 500, .inl o_ksen))]) (BW E A) A) ([.ref a0] : List Value).toArray s 0 0 A) (F0 m 212 ls []) := by
  intro vsz vmd vpc vba vbo vre vti vro vha vmem vreg vblk kold kwai ksnt ktyp ksen x1 x2 x3 x4 x5 H locs ls h hP hD hS hl
  rw [b_MA_step_212] at h
  refine lv_iload_n J.1 J.2.1 d_MA_step_212 rfl (lv_at hl 3 rfl) ?_
  refine lv_bipush (v := 16) J.1 J.2.1 d_MA_step_213 (by decide) ?_
  refine lv_icmp_ne (tgt := 233) J.1 J.2.1 d_MA_step_215 (by decide) (fun c_1 => ?_) (fun c_1 => ?_)
  · replace h := g_f c_1 h
    refine lv_aload_n J.1 J.2.1 d_MA_step_233 rfl (lv_at hl 0 rfl) ?_
    refine jg J hJ hP 0 rfl rfl i_MA 5 (by decide) gf_MA_41 rfl d_MA_step_234 ?_
    refine lv_iconst (v := 1) J.1 J.2.1 d_MA_step_237 (by decide) ?_
    refine lv_icmp_ne (tgt := 254) J.1 J.2.1 d_MA_step_238 (by decide) (fun c_2 => ?_) (fun c_2 => ?_)
    · replace h := g_f c_2 h
      refine lv_aload_n J.1 J.2.1 d_MA_step_254 rfl (lv_at hl 0 rfl) ?_
      refine lv_iload_n J.1 J.2.1 d_MA_step_255 rfl (lv_at hl 3 rfl) ?_
      refine lv_iload J.1 J.2.1 d_MA_step_256 (lv_at hl 4 rfl) ?_
      refine lv_iload J.1 J.2.1 d_MA_step_258 (lv_at hl 5 rfl) ?_
      refine lv_iload_n J.1 J.2.1 d_MA_step_260 rfl (lv_at hl 2 rfl) ?_
      replace h := g_bd h
      obtain ⟨⟨vmd_3, vpc_3, vba_3, vbo_3, vre_3, vti_3, vro_3, vha_3, vmem_3, vreg_3, vblk_3, kold_3, kwai_3, ksnt_3, ksen_3⟩, q_3, h⟩ := h
      try dsimp only at h
      have hq := ct_MA_govern l E a0 a1 a2 a3 k0 k1 k2 H.size vsz vmd vpc vba vbo vre vti vro vha vmem vreg vblk kold kwai ksnt ktyp ksen x3 x4 x5 x2 vmd_3 vpc_3 vba_3 vbo_3 vre_3 vti_3 vro_3 vha_3 vmem_3 vreg_3 vblk_3 kold_3 kwai_3 ksnt_3 ksen_3 q_3
      have hr := jrunV (p := p) (e := e) (below := below) (R := ({ frames := 3, cells := 0, slots := 0, locals := 129 })) (cells := 0) (slots := 0) (As := [.int x3, .int x4, .int x5, .int x2]) (rest := []) J hJ hA hZ hP hD hS hq [0, 1, 2, 3, 4, 5, 6] rfl (by decide) gl_MA_78 gi_MA_govern gsel_MA_govern gini_MA gc_MA_govern hd_MA_govern ⟨rfl, rfl, Nat.le_of_ble_eq_true rfl, Nat.le_of_ble_eq_true rfl⟩ rfl rfl hl.1 rfl rfl (Nat.le_of_ble_eq_true rfl) d_MA_step_261 ⟨Nat.zero_le _, Nat.zero_le _⟩
      clear hq
      refine jk_v hr hA hP hD hS [0, 1, 2, 3, 4, 5, 6] [] (WR := []) rfl rfl (by decide) (by decide) [0, 1, 2, 3, 4, 5, 6] (WF := [(a0, .inr (0, [.ref a1, .ref a2, .ref a3, .ref k0, .int vsz, .int vmd_3, .int vpc_3, .int vba_3, .int vbo_3, .int vre_3, .int vti_3, .int vro_3, .int vha_3])), (a1, .inl (E.2.1 0, 1844, .inl vmem_3)), (a2, .inl (E.2.1 0, 8, .inl vreg_3)), (a3, .inl (E.2.1 0, 128, .inl vblk_3)), (k0, .inr (1, [.ref k1, .ref k2, .int kold_3, .int kwai_3, .int ksnt_3])), (k1, .inl (E.2.1 0, 100, .inl ktyp)), (k2, .inl (E.2.1 0, 500, .inl ksen_3))]) rfl (by decide) ?_
      clear hP hD hS
      intro H locs hP hD hS
      clear hr
      have h := Option.some.inj h
      have e_0 := (Prod.mk.inj h).1
      have h := (Prod.mk.inj h).2
      have e_1 := (Prod.mk.inj h).1
      have h := (Prod.mk.inj h).2
      have e_2 := (Prod.mk.inj h).1
      have h := (Prod.mk.inj h).2
      have e_3 := (Prod.mk.inj h).1
      have h := (Prod.mk.inj h).2
      have e_4 := (Prod.mk.inj h).1
      have h := (Prod.mk.inj h).2
      have e_5 := (Prod.mk.inj h).1
      have h := (Prod.mk.inj h).2
      have e_6 := (Prod.mk.inj h).1
      have h := (Prod.mk.inj h).2
      have e_7 := (Prod.mk.inj h).1
      have h := (Prod.mk.inj h).2
      have e_8 := (Prod.mk.inj h).1
      have h := (Prod.mk.inj h).2
      have e_9 := (Prod.mk.inj h).1
      have h := (Prod.mk.inj h).2
      have e_10 := (Prod.mk.inj h).1
      have h := (Prod.mk.inj h).2
      have e_11 := (Prod.mk.inj h).1
      have h := (Prod.mk.inj h).2
      have e_12 := (Prod.mk.inj h).1
      have h := (Prod.mk.inj h).2
      have e_13 := (Prod.mk.inj h).1
      have h := (Prod.mk.inj h).2
      rw [← e_0, ← e_1, ← e_2, ← e_3, ← e_4, ← e_5, ← e_6, ← e_7, ← e_8, ← e_9, ← e_10, ← e_11, ← e_12, ← e_13, ← h]
      exact jr_v J hS hP hD d_MA_step_264
    · replace h := g_t c_2 h
      refine lv_aload_n J.1 J.2.1 d_MA_step_241 rfl (lv_at hl 0 rfl) ?_
      refine lv_iconst (v := 1) J.1 J.2.1 d_MA_step_242 (by decide) ?_
      refine lv_iload_n J.1 J.2.1 d_MA_step_243 rfl (lv_at hl 1 rfl) ?_
      refine lv_aload_n J.1 J.2.1 d_MA_step_244 rfl (lv_at hl 0 rfl) ?_
      refine jg J hJ hP 0 rfl rfl i_MA 6 (by decide) gf_MA_44 rfl d_MA_step_245 ?_
      replace h := g_bd h
      obtain ⟨⟨vmd_4, vpc_4, vba_4, vbo_4, vre_4, vmem_4⟩, q_4, h⟩ := h
      try dsimp only at h
      have hq := ct_MA_trap l E a0 a1 a2 a3 k0 H.size vsz vmd vpc vba vbo vre vti vro vha vmem 1 x1 vpc vmd_4 vpc_4 vba_4 vbo_4 vre_4 vmem_4 q_4
      have hr := jrunV (p := p) (e := e) (below := below) (R := ({ frames := 3, cells := 0, slots := 0, locals := 129 })) (cells := 0) (slots := 0) (As := [.int 1, .int x1, .int vpc]) (rest := []) J hJ hA hZ hP hD hS hq [0, 1] rfl (by decide) gl_MA_66 gi_MA_trap gsel_MA_trap gini_MA gc_MA_trap hd_MA_trap ⟨rfl, rfl, Nat.le_of_ble_eq_true rfl, Nat.le_of_ble_eq_true rfl⟩ rfl rfl hl.1 rfl rfl (Nat.le_of_ble_eq_true rfl) d_MA_step_248 ⟨Nat.zero_le _, Nat.zero_le _⟩
      clear hq
      refine jk_v hr hA hP hD hS [0, 1] [2, 3, 4, 5, 6] (WR := [(a2, .inl (E.2.1 0, 8, .inl vreg)), (a3, .inl (E.2.1 0, 128, .inl vblk)), (k0, .inr (1, [.ref k1, .ref k2, .int kold, .int kwai, .int ksnt])), (k1, .inl (E.2.1 0, 100, .inl ktyp)), (k2, .inl (E.2.1 0, 500, .inl ksen))]) rfl rfl (by decide) (by decide) [5, 6, 0, 1, 2, 3, 4] (WF := [(a0, .inr (0, [.ref a1, .ref a2, .ref a3, .ref k0, .int vsz, .int vmd_4, .int vpc_4, .int vba_4, .int vbo_4, .int vre_4, .int vti, .int vro, .int vha])), (a1, .inl (E.2.1 0, 1844, .inl vmem_4)), (a2, .inl (E.2.1 0, 8, .inl vreg)), (a3, .inl (E.2.1 0, 128, .inl vblk)), (k0, .inr (1, [.ref k1, .ref k2, .int kold, .int kwai, .int ksnt])), (k1, .inl (E.2.1 0, 100, .inl ktyp)), (k2, .inl (E.2.1 0, 500, .inl ksen))]) rfl (by decide) ?_
      clear hP hD hS
      intro H locs hP hD hS
      clear hr
      refine lv_goto (tgt := 264) J.1 J.2.1 d_MA_step_251 (by decide) ?_
      have h := Option.some.inj h
      have e_0 := (Prod.mk.inj h).1
      have h := (Prod.mk.inj h).2
      have e_1 := (Prod.mk.inj h).1
      have h := (Prod.mk.inj h).2
      have e_2 := (Prod.mk.inj h).1
      have h := (Prod.mk.inj h).2
      have e_3 := (Prod.mk.inj h).1
      have h := (Prod.mk.inj h).2
      have e_4 := (Prod.mk.inj h).1
      have h := (Prod.mk.inj h).2
      have e_5 := (Prod.mk.inj h).1
      have h := (Prod.mk.inj h).2
      have e_6 := (Prod.mk.inj h).1
      have h := (Prod.mk.inj h).2
      have e_7 := (Prod.mk.inj h).1
      have h := (Prod.mk.inj h).2
      have e_8 := (Prod.mk.inj h).1
      have h := (Prod.mk.inj h).2
      have e_9 := (Prod.mk.inj h).1
      have h := (Prod.mk.inj h).2
      have e_10 := (Prod.mk.inj h).1
      have h := (Prod.mk.inj h).2
      have e_11 := (Prod.mk.inj h).1
      have h := (Prod.mk.inj h).2
      have e_12 := (Prod.mk.inj h).1
      have h := (Prod.mk.inj h).2
      have e_13 := (Prod.mk.inj h).1
      have h := (Prod.mk.inj h).2
      rw [← e_0, ← e_1, ← e_2, ← e_3, ← e_4, ← e_5, ← e_6, ← e_7, ← e_8, ← e_9, ← e_10, ← e_11, ← e_12, ← e_13, ← h]
      exact jr_v J hS hP hD d_MA_step_264
  · replace h := g_t c_1 h
    refine lv_aload_n J.1 J.2.1 d_MA_step_218 rfl (lv_at hl 0 rfl) ?_
    refine lv_iconst (v := 3) J.1 J.2.1 d_MA_step_219 (by decide) ?_
    refine lv_iload_n J.1 J.2.1 d_MA_step_220 rfl (lv_at hl 2 rfl) ?_
    refine lv_aload_n J.1 J.2.1 d_MA_step_221 rfl (lv_at hl 0 rfl) ?_
    refine jg J hJ hP 0 rfl rfl i_MA 6 (by decide) gf_MA_44 rfl d_MA_step_222 ?_
    refine lv_iconst (v := 2) J.1 J.2.1 d_MA_step_225 (by decide) ?_
    refine lv_iadd J.1 J.2.1 d_MA_step_226 ?_
    replace h := g_bd h
    obtain ⟨⟨vmd_5, vpc_5, vba_5, vbo_5, vre_5, vmem_5⟩, q_5, h⟩ := h
    try dsimp only at h
    have hq := ct_MA_trap l E a0 a1 a2 a3 k0 H.size vsz vmd vpc vba vbo vre vti vro vha vmem 3 x2 (vpc + 2) vmd_5 vpc_5 vba_5 vbo_5 vre_5 vmem_5 q_5
    have hr := jrunV (p := p) (e := e) (below := below) (R := ({ frames := 3, cells := 0, slots := 0, locals := 129 })) (cells := 0) (slots := 0) (As := [.int 3, .int x2, .int (vpc + 2)]) (rest := []) J hJ hA hZ hP hD hS hq [0, 1] rfl (by decide) gl_MA_66 gi_MA_trap gsel_MA_trap gini_MA gc_MA_trap hd_MA_trap ⟨rfl, rfl, Nat.le_of_ble_eq_true rfl, Nat.le_of_ble_eq_true rfl⟩ rfl rfl hl.1 rfl rfl (Nat.le_of_ble_eq_true rfl) d_MA_step_227 ⟨Nat.zero_le _, Nat.zero_le _⟩
    clear hq
    refine jk_v hr hA hP hD hS [0, 1] [2, 3, 4, 5, 6] (WR := [(a2, .inl (E.2.1 0, 8, .inl vreg)), (a3, .inl (E.2.1 0, 128, .inl vblk)), (k0, .inr (1, [.ref k1, .ref k2, .int kold, .int kwai, .int ksnt])), (k1, .inl (E.2.1 0, 100, .inl ktyp)), (k2, .inl (E.2.1 0, 500, .inl ksen))]) rfl rfl (by decide) (by decide) [5, 6, 0, 1, 2, 3, 4] (WF := [(a0, .inr (0, [.ref a1, .ref a2, .ref a3, .ref k0, .int vsz, .int vmd_5, .int vpc_5, .int vba_5, .int vbo_5, .int vre_5, .int vti, .int vro, .int vha])), (a1, .inl (E.2.1 0, 1844, .inl vmem_5)), (a2, .inl (E.2.1 0, 8, .inl vreg)), (a3, .inl (E.2.1 0, 128, .inl vblk)), (k0, .inr (1, [.ref k1, .ref k2, .int kold, .int kwai, .int ksnt])), (k1, .inl (E.2.1 0, 100, .inl ktyp)), (k2, .inl (E.2.1 0, 500, .inl ksen))]) rfl (by decide) ?_
    clear hP hD hS
    intro H locs hP hD hS
    clear hr
    refine lv_goto (tgt := 264) J.1 J.2.1 d_MA_step_230 (by decide) ?_
    have h := Option.some.inj h
    have e_0 := (Prod.mk.inj h).1
    have h := (Prod.mk.inj h).2
    have e_1 := (Prod.mk.inj h).1
    have h := (Prod.mk.inj h).2
    have e_2 := (Prod.mk.inj h).1
    have h := (Prod.mk.inj h).2
    have e_3 := (Prod.mk.inj h).1
    have h := (Prod.mk.inj h).2
    have e_4 := (Prod.mk.inj h).1
    have h := (Prod.mk.inj h).2
    have e_5 := (Prod.mk.inj h).1
    have h := (Prod.mk.inj h).2
    have e_6 := (Prod.mk.inj h).1
    have h := (Prod.mk.inj h).2
    have e_7 := (Prod.mk.inj h).1
    have h := (Prod.mk.inj h).2
    have e_8 := (Prod.mk.inj h).1
    have h := (Prod.mk.inj h).2
    have e_9 := (Prod.mk.inj h).1
    have h := (Prod.mk.inj h).2
    have e_10 := (Prod.mk.inj h).1
    have h := (Prod.mk.inj h).2
    have e_11 := (Prod.mk.inj h).1
    have h := (Prod.mk.inj h).2
    have e_12 := (Prod.mk.inj h).1
    have h := (Prod.mk.inj h).2
    have e_13 := (Prod.mk.inj h).1
    have h := (Prod.mk.inj h).2
    rw [← e_0, ← e_1, ← e_2, ← e_3, ← e_4, ← e_5, ← e_6, ← e_7, ← e_8, ← e_9, ← e_10, ← e_11, ← e_12, ← e_13, ← h]
    exact jr_v J hS hP hD d_MA_step_264
set_option maxHeartbeats 4000000 in
set_option maxRecDepth 100000 in
theorem kb_MA_step_189 {p : Program} {l : Launch} {e : Env} {s : State} {m : MethodId} {below : List Frame} {meth : Method} {c : Code} {A : Nat → Prop} {E : jz_E} {a0 a1 a2 a3 k0 k1 k2 : Nat} {o_vmd : Int32} {o_vpc : Int32} {o_vba : Int32} {o_vbo : Int32} {o_vre : Int32} {o_vti : Int32} {o_vro : Int32} {o_vha : Int32} {o_vmem : Nat → Int32} {o_vreg : Nat → Int32} {o_vblk : Nat → Int32} {o_kold : Int32} {o_kwai : Int32} {o_ksnt : Int32} {o_ksen : Nat → Int32} (J : JC p s m ([.ref a0] : List Value).toArray meth c c_MA_step 6 none y_MA_step.cls) (hJ : jE E s) (hA : ∀ q : Nat, s.heap.size ≤ q → A q) (hZ : jz_ok E A s s.heap) : ∀ (vsz : Int32) (vmd : Int32) (vpc : Int32) (vba : Int32) (vbo : Int32) (vre : Int32) (vti : Int32) (vro : Int32) (vha : Int32) (vmem : Nat → Int32) (vreg : Nat → Int32) (vblk : Nat → Int32) (kold : Int32) (kwai : Int32) (ksnt : Int32) (ktyp : Nat → Int32) (ksen : Nat → Int32) (x1 : Int32) (x2 : Int32) (x3 : Int32) (x4 : Int32) (x5 : Int32) (H : Heap) (locs : List Loc) (ls : Array Slot), b_MA_step_189 vsz vmd vpc vba vbo vre vti vro vha vmem vreg vblk kold kwai ksnt ktyp ksen x1 x2 x3 x4 x5 = some (o_vmd, o_vpc, o_vba, o_vbo, o_vre, o_vti, o_vro, o_vha, o_vmem, o_vreg, o_vblk, o_kold, o_kwai, o_ksnt, o_ksen) → va_P E.1 classes [(a0, .inr (0, [.ref a1, .ref a2, .ref a3, .ref k0, .int vsz, .int vmd, .int vpc, .int vba, .int vbo, .int vre, .int vti, .int vro, .int vha])), (a1, .inl (E.2.1 0, 1844, .inl vmem)), (a2, .inl (E.2.1 0, 8, .inl vreg)), (a3, .inl (E.2.1 0, 128, .inl vblk)), (k0, .inr (1, [.ref k1, .ref k2, .int kold, .int kwai, .int ksnt])), (k1, .inl (E.2.1 0, 100, .inl ktyp)), (k2, .inl (E.2.1 0, 500, .inl ksen))] H → va_D A [(a0, .inr (0, [.ref a1, .ref a2, .ref a3, .ref k0, .int vsz, .int vmd, .int vpc, .int vba, .int vbo, .int vre, .int vti, .int vro, .int vha])), (a1, .inl (E.2.1 0, 1844, .inl vmem)), (a2, .inl (E.2.1 0, 8, .inl vreg)), (a3, .inl (E.2.1 0, 128, .inl vblk)), (k0, .inr (1, [.ref k1, .ref k2, .int kold, .int kwai, .int ksnt])), (k1, .inl (E.2.1 0, 100, .inl ktyp)), (k2, .inl (E.2.1 0, 500, .inl ksen))] → va_S A s.heap H locs → lv_has ls 6 [(0, .ref a0), (1, .int x1), (2, .int x2), (3, .int x3), (4, .int x4), (5, .int x5)] → W p l e ({ frames := 3, cells := 0, slots := 0, locals := 129 }) s m ([.ref a0] : List Value).toArray below meth c H locs 0 0 (MQ below (va_Qv (fun (u : va_W) => u = [(a0, .inr (0, [.ref a1, .ref a2, .ref a3, .ref k0, .int vsz, .int o_vmd, .int o_vpc, .int o_vba, .int o_vbo, .int o_vre, .int o_vti, .int o_vro, .int o_vha])), (a1, .inl (E.2.1 0, 1844, .inl o_vmem)), (a2, .inl (E.2.1 0, 8, .inl o_vreg)), (a3, .inl (E.2.1 0, 128, .inl o_vblk)), (k0, .inr (1, [.ref k1, .ref k2, .int o_kold, .int o_kwai, .int o_ksnt])), (k1, .inl (E.2.1 0, 100, .inl ktyp)), (k2, .inl (E.2.1 0, 500, .inl o_ksen))]) (BW E A) A) ([.ref a0] : List Value).toArray s 0 0 A) (F0 m 189 ls []) := by
  intro vsz vmd vpc vba vbo vre vti vro vha vmem vreg vblk kold kwai ksnt ktyp ksen x1 x2 x3 x4 x5 H locs ls h hP hD hS hl
  rw [b_MA_step_189] at h
  refine lv_iload_n J.1 J.2.1 d_MA_step_189 rfl (lv_at hl 3 rfl) ?_
  refine lv_if_le (tgt := 212) J.1 J.2.1 d_MA_step_190 (by decide) (fun c_6 => ?_) (fun c_6 => ?_)
  · replace h := g_t c_6 h
    exact kb_MA_step_212 J hJ hA hZ _ _ _ _ _ _ _ _ _ _ _ _ _ _ _ _ _ _ _ _ _ _ _ _ _ h hP hD hS (lv_sub hl [0, 1, 2, 3, 4, 5] rfl)
  · replace h := g_f c_6 h
    refine lv_iload_n J.1 J.2.1 d_MA_step_193 rfl (lv_at hl 3 rfl) ?_
    refine lv_bipush (v := 16) J.1 J.2.1 d_MA_step_194 (by decide) ?_
    refine lv_icmp_ge (tgt := 212) J.1 J.2.1 d_MA_step_196 (by decide) (fun c_7 => ?_) (fun c_7 => ?_)
    · replace h := g_t c_7 h
      exact kb_MA_step_212 J hJ hA hZ _ _ _ _ _ _ _ _ _ _ _ _ _ _ _ _ _ _ _ _ _ _ _ _ _ h hP hD hS (lv_sub hl [0, 1, 2, 3, 4, 5] rfl)
    · replace h := g_f c_7 h
      refine lv_aload_n J.1 J.2.1 d_MA_step_199 rfl (lv_at hl 0 rfl) ?_
      refine lv_iload_n J.1 J.2.1 d_MA_step_200 rfl (lv_at hl 3 rfl) ?_
      refine lv_iload J.1 J.2.1 d_MA_step_201 (lv_at hl 4 rfl) ?_
      refine lv_iload J.1 J.2.1 d_MA_step_203 (lv_at hl 5 rfl) ?_
      refine lv_iload_n J.1 J.2.1 d_MA_step_205 rfl (lv_at hl 2 rfl) ?_
      replace h := g_bd h
      obtain ⟨⟨vpc_8, vti_8, vro_8, vreg_8⟩, q_8, h⟩ := h
      try dsimp only at h
      have hq := ct_MA_compute l E a0 a1 a2 a3 k0 H.size vsz vmd vpc vba vbo vre vti vro vha vreg x3 x4 x5 x2 vpc_8 vti_8 vro_8 vreg_8 q_8
      have hr := jrunV (p := p) (e := e) (below := below) (R := ({ frames := 3, cells := 0, slots := 0, locals := 129 })) (cells := 0) (slots := 0) (As := [.int x3, .int x4, .int x5, .int x2]) (rest := []) J hJ hA hZ hP hD hS hq [0, 2] rfl (by decide) gl_MA_74 gi_MA_compute gsel_MA_compute gini_MA gc_MA_compute hd_MA_compute ⟨rfl, rfl, Nat.le_of_ble_eq_true rfl, Nat.le_of_ble_eq_true rfl⟩ rfl rfl hl.1 rfl rfl (Nat.le_of_ble_eq_true rfl) d_MA_step_206 ⟨Nat.zero_le _, Nat.zero_le _⟩
      clear hq
      refine jk_v hr hA hP hD hS [0, 2] [1, 3, 4, 5, 6] (WR := [(a1, .inl (E.2.1 0, 1844, .inl vmem)), (a3, .inl (E.2.1 0, 128, .inl vblk)), (k0, .inr (1, [.ref k1, .ref k2, .int kold, .int kwai, .int ksnt])), (k1, .inl (E.2.1 0, 100, .inl ktyp)), (k2, .inl (E.2.1 0, 500, .inl ksen))]) rfl rfl (by decide) (by decide) [5, 0, 6, 1, 2, 3, 4] (WF := [(a0, .inr (0, [.ref a1, .ref a2, .ref a3, .ref k0, .int vsz, .int vmd, .int vpc_8, .int vba, .int vbo, .int vre, .int vti_8, .int vro_8, .int vha])), (a1, .inl (E.2.1 0, 1844, .inl vmem)), (a2, .inl (E.2.1 0, 8, .inl vreg_8)), (a3, .inl (E.2.1 0, 128, .inl vblk)), (k0, .inr (1, [.ref k1, .ref k2, .int kold, .int kwai, .int ksnt])), (k1, .inl (E.2.1 0, 100, .inl ktyp)), (k2, .inl (E.2.1 0, 500, .inl ksen))]) rfl (by decide) ?_
      clear hP hD hS
      intro H locs hP hD hS
      clear hr
      refine lv_goto (tgt := 264) J.1 J.2.1 d_MA_step_209 (by decide) ?_
      have h := Option.some.inj h
      have e_0 := (Prod.mk.inj h).1
      have h := (Prod.mk.inj h).2
      have e_1 := (Prod.mk.inj h).1
      have h := (Prod.mk.inj h).2
      have e_2 := (Prod.mk.inj h).1
      have h := (Prod.mk.inj h).2
      have e_3 := (Prod.mk.inj h).1
      have h := (Prod.mk.inj h).2
      have e_4 := (Prod.mk.inj h).1
      have h := (Prod.mk.inj h).2
      have e_5 := (Prod.mk.inj h).1
      have h := (Prod.mk.inj h).2
      have e_6 := (Prod.mk.inj h).1
      have h := (Prod.mk.inj h).2
      have e_7 := (Prod.mk.inj h).1
      have h := (Prod.mk.inj h).2
      have e_8 := (Prod.mk.inj h).1
      have h := (Prod.mk.inj h).2
      have e_9 := (Prod.mk.inj h).1
      have h := (Prod.mk.inj h).2
      have e_10 := (Prod.mk.inj h).1
      have h := (Prod.mk.inj h).2
      have e_11 := (Prod.mk.inj h).1
      have h := (Prod.mk.inj h).2
      have e_12 := (Prod.mk.inj h).1
      have h := (Prod.mk.inj h).2
      have e_13 := (Prod.mk.inj h).1
      have h := (Prod.mk.inj h).2
      rw [← e_0, ← e_1, ← e_2, ← e_3, ← e_4, ← e_5, ← e_6, ← e_7, ← e_8, ← e_9, ← e_10, ← e_11, ← e_12, ← e_13, ← h]
      exact jr_v J hS hP hD d_MA_step_264
set_option maxHeartbeats 4000000 in
set_option maxRecDepth 100000 in
theorem kb_MA_step_31 {p : Program} {l : Launch} {e : Env} {s : State} {m : MethodId} {below : List Frame} {meth : Method} {c : Code} {A : Nat → Prop} {E : jz_E} {a0 a1 a2 a3 k0 k1 k2 : Nat} {o_vmd : Int32} {o_vpc : Int32} {o_vba : Int32} {o_vbo : Int32} {o_vre : Int32} {o_vti : Int32} {o_vro : Int32} {o_vha : Int32} {o_vmem : Nat → Int32} {o_vreg : Nat → Int32} {o_vblk : Nat → Int32} {o_kold : Int32} {o_kwai : Int32} {o_ksnt : Int32} {o_ksen : Nat → Int32} (J : JC p s m ([.ref a0] : List Value).toArray meth c c_MA_step 6 none y_MA_step.cls) (hJ : jE E s) (hA : ∀ q : Nat, s.heap.size ≤ q → A q) (hZ : jz_ok E A s s.heap) : ∀ (vsz : Int32) (vmd : Int32) (vpc : Int32) (vba : Int32) (vbo : Int32) (vre : Int32) (vti : Int32) (vro : Int32) (vha : Int32) (vmem : Nat → Int32) (vreg : Nat → Int32) (vblk : Nat → Int32) (kold : Int32) (kwai : Int32) (ksnt : Int32) (ktyp : Nat → Int32) (ksen : Nat → Int32) (H : Heap) (locs : List Loc) (ls : Array Slot), b_MA_step_31 vsz vmd vpc vba vbo vre vti vro vha vmem vreg vblk kold kwai ksnt ktyp ksen = some (o_vmd, o_vpc, o_vba, o_vbo, o_vre, o_vti, o_vro, o_vha, o_vmem, o_vreg, o_vblk, o_kold, o_kwai, o_ksnt, o_ksen) → va_P E.1 classes [(a0, .inr (0, [.ref a1, .ref a2, .ref a3, .ref k0, .int vsz, .int vmd, .int vpc, .int vba, .int vbo, .int vre, .int vti, .int vro, .int vha])), (a1, .inl (E.2.1 0, 1844, .inl vmem)), (a2, .inl (E.2.1 0, 8, .inl vreg)), (a3, .inl (E.2.1 0, 128, .inl vblk)), (k0, .inr (1, [.ref k1, .ref k2, .int kold, .int kwai, .int ksnt])), (k1, .inl (E.2.1 0, 100, .inl ktyp)), (k2, .inl (E.2.1 0, 500, .inl ksen))] H → va_D A [(a0, .inr (0, [.ref a1, .ref a2, .ref a3, .ref k0, .int vsz, .int vmd, .int vpc, .int vba, .int vbo, .int vre, .int vti, .int vro, .int vha])), (a1, .inl (E.2.1 0, 1844, .inl vmem)), (a2, .inl (E.2.1 0, 8, .inl vreg)), (a3, .inl (E.2.1 0, 128, .inl vblk)), (k0, .inr (1, [.ref k1, .ref k2, .int kold, .int kwai, .int ksnt])), (k1, .inl (E.2.1 0, 100, .inl ktyp)), (k2, .inl (E.2.1 0, 500, .inl ksen))] → va_S A s.heap H locs → lv_has ls 6 [(0, .ref a0)] → W p l e ({ frames := 3, cells := 0, slots := 0, locals := 129 }) s m ([.ref a0] : List Value).toArray below meth c H locs 0 0 (MQ below (va_Qv (fun (u : va_W) => u = [(a0, .inr (0, [.ref a1, .ref a2, .ref a3, .ref k0, .int vsz, .int o_vmd, .int o_vpc, .int o_vba, .int o_vbo, .int o_vre, .int o_vti, .int o_vro, .int o_vha])), (a1, .inl (E.2.1 0, 1844, .inl o_vmem)), (a2, .inl (E.2.1 0, 8, .inl o_vreg)), (a3, .inl (E.2.1 0, 128, .inl o_vblk)), (k0, .inr (1, [.ref k1, .ref k2, .int o_kold, .int o_kwai, .int o_ksnt])), (k1, .inl (E.2.1 0, 100, .inl ktyp)), (k2, .inl (E.2.1 0, 500, .inl o_ksen))]) (BW E A) A) ([.ref a0] : List Value).toArray s 0 0 A) (F0 m 31 ls []) := by
  intro vsz vmd vpc vba vbo vre vti vro vha vmem vreg vblk kold kwai ksnt ktyp ksen H locs ls h hP hD hS hl
  rw [b_MA_step_31] at h
  refine lv_aload_n J.1 J.2.1 d_MA_step_31 rfl (lv_at hl 0 rfl) ?_
  refine jg J hJ hP 0 rfl rfl i_MA 6 (by decide) gf_MA_44 rfl d_MA_step_32 ?_
  refine lv_iconst (v := 1) J.1 J.2.1 d_MA_step_35 (by decide) ?_
  refine lv_iadd J.1 J.2.1 d_MA_step_36 ?_
  refine lv_aload_n J.1 J.2.1 d_MA_step_37 rfl (lv_at hl 0 rfl) ?_
  refine jg J hJ hP 0 rfl rfl i_MA 9 (by decide) gf_MA_53 rfl d_MA_step_38 ?_
  refine lv_icmp_lt (tgt := 78) J.1 J.2.1 d_MA_step_41 (by decide) (fun c_9 => ?_) (fun c_9 => ?_)
  · replace h := g_t c_9 h
    refine lv_aload_n J.1 J.2.1 d_MA_step_78 rfl (lv_at hl 0 rfl) ?_
    refine jg J hJ hP 0 rfl rfl i_MA 0 (by decide) gf_MA_9 rfl d_MA_step_79 ?_
    refine lv_aload_n J.1 J.2.1 d_MA_step_82 rfl (lv_at hl 0 rfl) ?_
    refine jg J hJ hP 0 rfl rfl i_MA 7 (by decide) gf_MA_47 rfl d_MA_step_83 ?_
    refine lv_aload_n J.1 J.2.1 d_MA_step_86 rfl (lv_at hl 0 rfl) ?_
    refine jg J hJ hP 0 rfl rfl i_MA 6 (by decide) gf_MA_44 rfl d_MA_step_87 ?_
    refine lv_iadd J.1 J.2.1 d_MA_step_90 ?_
    replace h := g_ck h
    obtain ⟨k_10, h⟩ := h
    refine jai J hJ hP 1 rfl k_10 d_MA_step_91 ?_
    refine lv_istore_n (lv' := [(1, .int (vmem (vba + vpc).toNatClampNeg)), (0, .ref a0)]) J.1 J.2.1 d_MA_step_92 rfl hl (by decide) rfl ?_
    clear hl
    intro ls hl
    refine lv_aload_n J.1 J.2.1 d_MA_step_93 rfl (lv_at hl 1 rfl) ?_
    refine jg J hJ hP 0 rfl rfl i_MA 0 (by decide) gf_MA_9 rfl d_MA_step_94 ?_
    refine lv_aload_n J.1 J.2.1 d_MA_step_97 rfl (lv_at hl 1 rfl) ?_
    refine jg J hJ hP 0 rfl rfl i_MA 7 (by decide) gf_MA_47 rfl d_MA_step_98 ?_
    refine lv_aload_n J.1 J.2.1 d_MA_step_101 rfl (lv_at hl 1 rfl) ?_
    refine jg J hJ hP 0 rfl rfl i_MA 6 (by decide) gf_MA_44 rfl d_MA_step_102 ?_
    refine lv_iadd J.1 J.2.1 d_MA_step_105 ?_
    refine lv_iconst (v := 1) J.1 J.2.1 d_MA_step_106 (by decide) ?_
    refine lv_iadd J.1 J.2.1 d_MA_step_107 ?_
    replace h := g_ck h
    obtain ⟨k_11, h⟩ := h
    refine jai J hJ hP 1 rfl k_11 d_MA_step_108 ?_
    refine lv_istore_n (lv' := [(2, .int (vmem ((vba + vpc) + 1).toNatClampNeg)), (1, .int (vmem (vba + vpc).toNatClampNeg)), (0, .ref a0)]) J.1 J.2.1 d_MA_step_109 rfl hl (by decide) rfl ?_
    clear hl
    intro ls hl
    refine lv_iload_n J.1 J.2.1 d_MA_step_110 rfl (lv_at hl 1 rfl) ?_
    refine lv_bipush (v := 6) J.1 J.2.1 d_MA_step_111 (by decide) ?_
    refine lv_ishr J.1 J.2.1 d_MA_step_113 ?_
    refine lv_istore_n (lv' := [(3, .int ((vmem (vba + vpc).toNatClampNeg) >>> (6 &&& 31))), (2, .int (vmem ((vba + vpc) + 1).toNatClampNeg)), (1, .int (vmem (vba + vpc).toNatClampNeg)), (0, .ref a0)]) J.1 J.2.1 d_MA_step_114 rfl hl (by decide) rfl ?_
    clear hl
    intro ls hl
    refine lv_iload_n J.1 J.2.1 d_MA_step_115 rfl (lv_at hl 2 rfl) ?_
    refine lv_iconst (v := 3) J.1 J.2.1 d_MA_step_116 (by decide) ?_
    refine lv_ishr J.1 J.2.1 d_MA_step_117 ?_
    refine lv_bipush (v := 7) J.1 J.2.1 d_MA_step_118 (by decide) ?_
    refine lv_iand J.1 J.2.1 d_MA_step_120 ?_
    refine lv_istore (lv' := [(4, .int (((vmem (vba + vpc).toNatClampNeg) >>> (3 &&& 31)) &&& 7)), (3, .int ((vmem (vba + vpc).toNatClampNeg) >>> (6 &&& 31))), (2, .int (vmem ((vba + vpc) + 1).toNatClampNeg)), (1, .int (vmem (vba + vpc).toNatClampNeg)), (0, .ref a0)]) J.1 J.2.1 d_MA_step_121 hl (by decide) rfl ?_
    clear hl
    intro ls hl
    refine lv_iload_n J.1 J.2.1 d_MA_step_123 rfl (lv_at hl 3 rfl) ?_
    refine lv_bipush (v := 7) J.1 J.2.1 d_MA_step_124 (by decide) ?_
    refine lv_iand J.1 J.2.1 d_MA_step_126 ?_
    refine lv_istore (lv' := [(5, .int ((vmem (vba + vpc).toNatClampNeg) &&& 7)), (4, .int (((vmem (vba + vpc).toNatClampNeg) >>> (3 &&& 31)) &&& 7)), (3, .int ((vmem (vba + vpc).toNatClampNeg) >>> (6 &&& 31))), (2, .int (vmem ((vba + vpc) + 1).toNatClampNeg)), (1, .int (vmem (vba + vpc).toNatClampNeg)), (0, .ref a0)]) J.1 J.2.1 d_MA_step_127 hl (by decide) rfl ?_
    clear hl
    intro ls hl
    refine lv_iload_n J.1 J.2.1 d_MA_step_129 rfl (lv_at hl 2 rfl) ?_
    refine lv_bipush (v := 24) J.1 J.2.1 d_MA_step_130 (by decide) ?_
    refine lv_icmp_le (tgt := 148) J.1 J.2.1 d_MA_step_132 (by decide) (fun c_12 => ?_) (fun c_12 => ?_)
    · replace h := g_t c_12 h
      refine lv_iload_n J.1 J.2.1 d_MA_step_148 rfl (lv_at hl 2 rfl) ?_
      refine lv_iconst (v := 2) J.1 J.2.1 d_MA_step_149 (by decide) ?_
      refine lv_icmp_lt (tgt := 189) J.1 J.2.1 d_MA_step_150 (by decide) (fun c_13 => ?_) (fun c_13 => ?_)
      · replace h := g_t c_13 h
        exact kb_MA_step_189 J hJ hA hZ _ _ _ _ _ _ _ _ _ _ _ _ _ _ _ _ _ _ _ _ _ _ _ _ _ h hP hD hS (lv_sub hl [5, 4, 3, 2, 1, 0] rfl)
      · replace h := g_f c_13 h
        refine lv_iload_n J.1 J.2.1 d_MA_step_153 rfl (lv_at hl 2 rfl) ?_
        refine lv_iconst (v := 5) J.1 J.2.1 d_MA_step_154 (by decide) ?_
        refine lv_icmp_gt (tgt := 189) J.1 J.2.1 d_MA_step_155 (by decide) (fun c_14 => ?_) (fun c_14 => ?_)
        · replace h := g_t c_14 h
          exact kb_MA_step_189 J hJ hA hZ _ _ _ _ _ _ _ _ _ _ _ _ _ _ _ _ _ _ _ _ _ _ _ _ _ h hP hD hS (lv_sub hl [5, 4, 3, 2, 1, 0] rfl)
        · replace h := g_f c_14 h
          refine lv_aload_n J.1 J.2.1 d_MA_step_158 rfl (lv_at hl 5 rfl) ?_
          refine lv_iload_n J.1 J.2.1 d_MA_step_159 rfl (lv_at hl 2 rfl) ?_
          refine lv_iload J.1 J.2.1 d_MA_step_160 (lv_at hl 1 rfl) ?_
          refine lv_iload_n J.1 J.2.1 d_MA_step_162 rfl (lv_at hl 2 rfl) ?_
          refine lv_iconst (v := 4) J.1 J.2.1 d_MA_step_163 (by decide) ?_
          refine lv_icmp_ge (tgt := 171) J.1 J.2.1 d_MA_step_164 (by decide) (fun c_15 => ?_) (fun c_15 => ?_)
          · replace h := g_t c_15 h
            refine lv_aload_n J.1 J.2.1 d_MA_step_171 rfl (lv_at hl 5 rfl) ?_
            refine jg J hJ hP 0 rfl rfl i_MA 1 (by decide) gf_MA_15 rfl d_MA_step_172 ?_
            refine lv_iload J.1 J.2.1 d_MA_step_175 (lv_at hl 0 rfl) ?_
            replace h := g_ck h
            obtain ⟨k_16, h⟩ := h
            refine jai J hJ hP 2 rfl k_16 d_MA_step_177 ?_
            refine lv_iload_n J.1 J.2.1 d_MA_step_178 rfl (lv_at hl 3 rfl) ?_
            refine lv_iadd J.1 J.2.1 d_MA_step_179 ?_
            refine lv_ldc (v := 65535) J.1 J.2.1 J.2.2.2.2.1 (J.2.2.2.2.2.1 _ gk_MA_70) d_MA_step_180 ?_
            refine lv_iand J.1 J.2.1 d_MA_step_182 ?_
            replace h := g_bd h
            obtain ⟨⟨vmd_17, vpc_17, vba_17, vbo_17, vre_17, vti_17, vro_17, vmem_17, vreg_17⟩, q_17, h⟩ := h
            try dsimp only at h
            have hq := ct_MA_access l E a0 a1 a2 a3 k0 H.size vsz vmd vpc vba vbo vre vti vro vha vmem vreg ((vmem (vba + vpc).toNatClampNeg) >>> (6 &&& 31)) (((vmem (vba + vpc).toNatClampNeg) >>> (3 &&& 31)) &&& 7) (((vreg ((vmem (vba + vpc).toNatClampNeg) &&& 7).toNatClampNeg) + (vmem ((vba + vpc) + 1).toNatClampNeg)) &&& 65535) vmd_17 vpc_17 vba_17 vbo_17 vre_17 vti_17 vro_17 vmem_17 vreg_17 q_17
            have hr := jrunV (p := p) (e := e) (below := below) (R := ({ frames := 3, cells := 0, slots := 0, locals := 129 })) (cells := 0) (slots := 0) (As := [.int ((vmem (vba + vpc).toNatClampNeg) >>> (6 &&& 31)), .int (((vmem (vba + vpc).toNatClampNeg) >>> (3 &&& 31)) &&& 7), .int (((vreg ((vmem (vba + vpc).toNatClampNeg) &&& 7).toNatClampNeg) + (vmem ((vba + vpc) + 1).toNatClampNeg)) &&& 65535)]) (rest := []) J hJ hA hZ hP hD hS hq [0, 1, 2] rfl (by decide) gl_MA_71 gi_MA_access gsel_MA_access gini_MA gc_MA_access hd_MA_access ⟨rfl, rfl, Nat.le_of_ble_eq_true rfl, Nat.le_of_ble_eq_true rfl⟩ rfl rfl hl.1 rfl rfl (Nat.le_of_ble_eq_true rfl) d_MA_step_183 ⟨Nat.zero_le _, Nat.zero_le _⟩
            clear hq
            refine jk_v hr hA hP hD hS [0, 1, 2] [3, 4, 5, 6] (WR := [(a3, .inl (E.2.1 0, 128, .inl vblk)), (k0, .inr (1, [.ref k1, .ref k2, .int kold, .int kwai, .int ksnt])), (k1, .inl (E.2.1 0, 100, .inl ktyp)), (k2, .inl (E.2.1 0, 500, .inl ksen))]) rfl rfl (by decide) (by decide) [4, 5, 6, 0, 1, 2, 3] (WF := [(a0, .inr (0, [.ref a1, .ref a2, .ref a3, .ref k0, .int vsz, .int vmd_17, .int vpc_17, .int vba_17, .int vbo_17, .int vre_17, .int vti_17, .int vro_17, .int vha])), (a1, .inl (E.2.1 0, 1844, .inl vmem_17)), (a2, .inl (E.2.1 0, 8, .inl vreg_17)), (a3, .inl (E.2.1 0, 128, .inl vblk)), (k0, .inr (1, [.ref k1, .ref k2, .int kold, .int kwai, .int ksnt])), (k1, .inl (E.2.1 0, 100, .inl ktyp)), (k2, .inl (E.2.1 0, 500, .inl ksen))]) rfl (by decide) ?_
            clear hP hD hS
            intro H locs hP hD hS
            clear hr
            refine lv_goto (tgt := 264) J.1 J.2.1 d_MA_step_186 (by decide) ?_
            have h := Option.some.inj h
            have e_0 := (Prod.mk.inj h).1
            have h := (Prod.mk.inj h).2
            have e_1 := (Prod.mk.inj h).1
            have h := (Prod.mk.inj h).2
            have e_2 := (Prod.mk.inj h).1
            have h := (Prod.mk.inj h).2
            have e_3 := (Prod.mk.inj h).1
            have h := (Prod.mk.inj h).2
            have e_4 := (Prod.mk.inj h).1
            have h := (Prod.mk.inj h).2
            have e_5 := (Prod.mk.inj h).1
            have h := (Prod.mk.inj h).2
            have e_6 := (Prod.mk.inj h).1
            have h := (Prod.mk.inj h).2
            have e_7 := (Prod.mk.inj h).1
            have h := (Prod.mk.inj h).2
            have e_8 := (Prod.mk.inj h).1
            have h := (Prod.mk.inj h).2
            have e_9 := (Prod.mk.inj h).1
            have h := (Prod.mk.inj h).2
            have e_10 := (Prod.mk.inj h).1
            have h := (Prod.mk.inj h).2
            have e_11 := (Prod.mk.inj h).1
            have h := (Prod.mk.inj h).2
            have e_12 := (Prod.mk.inj h).1
            have h := (Prod.mk.inj h).2
            have e_13 := (Prod.mk.inj h).1
            have h := (Prod.mk.inj h).2
            rw [← e_0, ← e_1, ← e_2, ← e_3, ← e_4, ← e_5, ← e_6, ← e_7, ← e_8, ← e_9, ← e_10, ← e_11, ← e_12, ← e_13, ← h]
            exact jr_v J hS hP hD d_MA_step_264
          · replace h := g_f c_15 h
            refine lv_iload_n J.1 J.2.1 d_MA_step_167 rfl (lv_at hl 3 rfl) ?_
            refine lv_goto (tgt := 183) J.1 J.2.1 d_MA_step_168 (by decide) ?_
            replace h := g_bd h
            obtain ⟨⟨vmd_18, vpc_18, vba_18, vbo_18, vre_18, vti_18, vro_18, vmem_18, vreg_18⟩, q_18, h⟩ := h
            try dsimp only at h
            have hq := ct_MA_access l E a0 a1 a2 a3 k0 H.size vsz vmd vpc vba vbo vre vti vro vha vmem vreg ((vmem (vba + vpc).toNatClampNeg) >>> (6 &&& 31)) (((vmem (vba + vpc).toNatClampNeg) >>> (3 &&& 31)) &&& 7) (vmem ((vba + vpc) + 1).toNatClampNeg) vmd_18 vpc_18 vba_18 vbo_18 vre_18 vti_18 vro_18 vmem_18 vreg_18 q_18
            have hr := jrunV (p := p) (e := e) (below := below) (R := ({ frames := 3, cells := 0, slots := 0, locals := 129 })) (cells := 0) (slots := 0) (As := [.int ((vmem (vba + vpc).toNatClampNeg) >>> (6 &&& 31)), .int (((vmem (vba + vpc).toNatClampNeg) >>> (3 &&& 31)) &&& 7), .int (vmem ((vba + vpc) + 1).toNatClampNeg)]) (rest := []) J hJ hA hZ hP hD hS hq [0, 1, 2] rfl (by decide) gl_MA_71 gi_MA_access gsel_MA_access gini_MA gc_MA_access hd_MA_access ⟨rfl, rfl, Nat.le_of_ble_eq_true rfl, Nat.le_of_ble_eq_true rfl⟩ rfl rfl hl.1 rfl rfl (Nat.le_of_ble_eq_true rfl) d_MA_step_183 ⟨Nat.zero_le _, Nat.zero_le _⟩
            clear hq
            refine jk_v hr hA hP hD hS [0, 1, 2] [3, 4, 5, 6] (WR := [(a3, .inl (E.2.1 0, 128, .inl vblk)), (k0, .inr (1, [.ref k1, .ref k2, .int kold, .int kwai, .int ksnt])), (k1, .inl (E.2.1 0, 100, .inl ktyp)), (k2, .inl (E.2.1 0, 500, .inl ksen))]) rfl rfl (by decide) (by decide) [4, 5, 6, 0, 1, 2, 3] (WF := [(a0, .inr (0, [.ref a1, .ref a2, .ref a3, .ref k0, .int vsz, .int vmd_18, .int vpc_18, .int vba_18, .int vbo_18, .int vre_18, .int vti_18, .int vro_18, .int vha])), (a1, .inl (E.2.1 0, 1844, .inl vmem_18)), (a2, .inl (E.2.1 0, 8, .inl vreg_18)), (a3, .inl (E.2.1 0, 128, .inl vblk)), (k0, .inr (1, [.ref k1, .ref k2, .int kold, .int kwai, .int ksnt])), (k1, .inl (E.2.1 0, 100, .inl ktyp)), (k2, .inl (E.2.1 0, 500, .inl ksen))]) rfl (by decide) ?_
            clear hP hD hS
            intro H locs hP hD hS
            clear hr
            refine lv_goto (tgt := 264) J.1 J.2.1 d_MA_step_186 (by decide) ?_
            have h := Option.some.inj h
            have e_0 := (Prod.mk.inj h).1
            have h := (Prod.mk.inj h).2
            have e_1 := (Prod.mk.inj h).1
            have h := (Prod.mk.inj h).2
            have e_2 := (Prod.mk.inj h).1
            have h := (Prod.mk.inj h).2
            have e_3 := (Prod.mk.inj h).1
            have h := (Prod.mk.inj h).2
            have e_4 := (Prod.mk.inj h).1
            have h := (Prod.mk.inj h).2
            have e_5 := (Prod.mk.inj h).1
            have h := (Prod.mk.inj h).2
            have e_6 := (Prod.mk.inj h).1
            have h := (Prod.mk.inj h).2
            have e_7 := (Prod.mk.inj h).1
            have h := (Prod.mk.inj h).2
            have e_8 := (Prod.mk.inj h).1
            have h := (Prod.mk.inj h).2
            have e_9 := (Prod.mk.inj h).1
            have h := (Prod.mk.inj h).2
            have e_10 := (Prod.mk.inj h).1
            have h := (Prod.mk.inj h).2
            have e_11 := (Prod.mk.inj h).1
            have h := (Prod.mk.inj h).2
            have e_12 := (Prod.mk.inj h).1
            have h := (Prod.mk.inj h).2
            have e_13 := (Prod.mk.inj h).1
            have h := (Prod.mk.inj h).2
            rw [← e_0, ← e_1, ← e_2, ← e_3, ← e_4, ← e_5, ← e_6, ← e_7, ← e_8, ← e_9, ← e_10, ← e_11, ← e_12, ← e_13, ← h]
            exact jr_v J hS hP hD d_MA_step_264
    · replace h := g_f c_12 h
      refine lv_aload_n J.1 J.2.1 d_MA_step_135 rfl (lv_at hl 5 rfl) ?_
      refine lv_iconst (v := 5) J.1 J.2.1 d_MA_step_136 (by decide) ?_
      refine lv_iload_n J.1 J.2.1 d_MA_step_137 rfl (lv_at hl 4 rfl) ?_
      refine lv_aload_n J.1 J.2.1 d_MA_step_138 rfl (lv_at hl 5 rfl) ?_
      refine jg J hJ hP 0 rfl rfl i_MA 6 (by decide) gf_MA_44 rfl d_MA_step_139 ?_
      replace h := g_bd h
      obtain ⟨⟨vmd_19, vpc_19, vba_19, vbo_19, vre_19, vmem_19⟩, q_19, h⟩ := h
      try dsimp only at h
      have hq := ct_MA_trap l E a0 a1 a2 a3 k0 H.size vsz vmd vpc vba vbo vre vti vro vha vmem 5 (vmem (vba + vpc).toNatClampNeg) vpc vmd_19 vpc_19 vba_19 vbo_19 vre_19 vmem_19 q_19
      have hr := jrunV (p := p) (e := e) (below := below) (R := ({ frames := 3, cells := 0, slots := 0, locals := 129 })) (cells := 0) (slots := 0) (As := [.int 5, .int (vmem (vba + vpc).toNatClampNeg), .int vpc]) (rest := []) J hJ hA hZ hP hD hS hq [0, 1] rfl (by decide) gl_MA_66 gi_MA_trap gsel_MA_trap gini_MA gc_MA_trap hd_MA_trap ⟨rfl, rfl, Nat.le_of_ble_eq_true rfl, Nat.le_of_ble_eq_true rfl⟩ rfl rfl hl.1 rfl rfl (Nat.le_of_ble_eq_true rfl) d_MA_step_142 ⟨Nat.zero_le _, Nat.zero_le _⟩
      clear hq
      refine jk_v hr hA hP hD hS [0, 1] [2, 3, 4, 5, 6] (WR := [(a2, .inl (E.2.1 0, 8, .inl vreg)), (a3, .inl (E.2.1 0, 128, .inl vblk)), (k0, .inr (1, [.ref k1, .ref k2, .int kold, .int kwai, .int ksnt])), (k1, .inl (E.2.1 0, 100, .inl ktyp)), (k2, .inl (E.2.1 0, 500, .inl ksen))]) rfl rfl (by decide) (by decide) [5, 6, 0, 1, 2, 3, 4] (WF := [(a0, .inr (0, [.ref a1, .ref a2, .ref a3, .ref k0, .int vsz, .int vmd_19, .int vpc_19, .int vba_19, .int vbo_19, .int vre_19, .int vti, .int vro, .int vha])), (a1, .inl (E.2.1 0, 1844, .inl vmem_19)), (a2, .inl (E.2.1 0, 8, .inl vreg)), (a3, .inl (E.2.1 0, 128, .inl vblk)), (k0, .inr (1, [.ref k1, .ref k2, .int kold, .int kwai, .int ksnt])), (k1, .inl (E.2.1 0, 100, .inl ktyp)), (k2, .inl (E.2.1 0, 500, .inl ksen))]) rfl (by decide) ?_
      clear hP hD hS
      intro H locs hP hD hS
      clear hr
      refine lv_goto (tgt := 264) J.1 J.2.1 d_MA_step_145 (by decide) ?_
      have h := Option.some.inj h
      have e_0 := (Prod.mk.inj h).1
      have h := (Prod.mk.inj h).2
      have e_1 := (Prod.mk.inj h).1
      have h := (Prod.mk.inj h).2
      have e_2 := (Prod.mk.inj h).1
      have h := (Prod.mk.inj h).2
      have e_3 := (Prod.mk.inj h).1
      have h := (Prod.mk.inj h).2
      have e_4 := (Prod.mk.inj h).1
      have h := (Prod.mk.inj h).2
      have e_5 := (Prod.mk.inj h).1
      have h := (Prod.mk.inj h).2
      have e_6 := (Prod.mk.inj h).1
      have h := (Prod.mk.inj h).2
      have e_7 := (Prod.mk.inj h).1
      have h := (Prod.mk.inj h).2
      have e_8 := (Prod.mk.inj h).1
      have h := (Prod.mk.inj h).2
      have e_9 := (Prod.mk.inj h).1
      have h := (Prod.mk.inj h).2
      have e_10 := (Prod.mk.inj h).1
      have h := (Prod.mk.inj h).2
      have e_11 := (Prod.mk.inj h).1
      have h := (Prod.mk.inj h).2
      have e_12 := (Prod.mk.inj h).1
      have h := (Prod.mk.inj h).2
      have e_13 := (Prod.mk.inj h).1
      have h := (Prod.mk.inj h).2
      rw [← e_0, ← e_1, ← e_2, ← e_3, ← e_4, ← e_5, ← e_6, ← e_7, ← e_8, ← e_9, ← e_10, ← e_11, ← e_12, ← e_13, ← h]
      exact jr_v J hS hP hD d_MA_step_264
  · replace h := g_f c_9 h
    refine lv_aload_n J.1 J.2.1 d_MA_step_44 rfl (lv_at hl 0 rfl) ?_
    refine lv_iconst (v := 2) J.1 J.2.1 d_MA_step_45 (by decide) ?_
    refine lv_aload_n J.1 J.2.1 d_MA_step_46 rfl (lv_at hl 0 rfl) ?_
    refine jg J hJ hP 0 rfl rfl i_MA 6 (by decide) gf_MA_44 rfl d_MA_step_47 ?_
    refine lv_aload_n J.1 J.2.1 d_MA_step_50 rfl (lv_at hl 0 rfl) ?_
    refine jg J hJ hP 0 rfl rfl i_MA 9 (by decide) gf_MA_53 rfl d_MA_step_51 ?_
    refine lv_icmp_ge (tgt := 66) J.1 J.2.1 d_MA_step_54 (by decide) (fun c_20 => ?_) (fun c_20 => ?_)
    · replace h := g_t c_20 h
      refine lv_aload_n J.1 J.2.1 d_MA_step_66 rfl (lv_at hl 0 rfl) ?_
      refine jg J hJ hP 0 rfl rfl i_MA 6 (by decide) gf_MA_44 rfl d_MA_step_67 ?_
      refine lv_aload_n J.1 J.2.1 d_MA_step_70 rfl (lv_at hl 0 rfl) ?_
      refine jg J hJ hP 0 rfl rfl i_MA 6 (by decide) gf_MA_44 rfl d_MA_step_71 ?_
      replace h := g_bd h
      obtain ⟨⟨vmd_21, vpc_21, vba_21, vbo_21, vre_21, vmem_21⟩, q_21, h⟩ := h
      try dsimp only at h
      have hq := ct_MA_trap l E a0 a1 a2 a3 k0 H.size vsz vmd vpc vba vbo vre vti vro vha vmem 2 vpc vpc vmd_21 vpc_21 vba_21 vbo_21 vre_21 vmem_21 q_21
      have hr := jrunV (p := p) (e := e) (below := below) (R := ({ frames := 3, cells := 0, slots := 0, locals := 129 })) (cells := 0) (slots := 0) (As := [.int 2, .int vpc, .int vpc]) (rest := []) J hJ hA hZ hP hD hS hq [0, 1] rfl (by decide) gl_MA_66 gi_MA_trap gsel_MA_trap gini_MA gc_MA_trap hd_MA_trap ⟨rfl, rfl, Nat.le_of_ble_eq_true rfl, Nat.le_of_ble_eq_true rfl⟩ rfl rfl hl.1 rfl rfl (Nat.le_of_ble_eq_true rfl) d_MA_step_74 ⟨Nat.zero_le _, Nat.zero_le _⟩
      clear hq
      refine jk_v hr hA hP hD hS [0, 1] [2, 3, 4, 5, 6] (WR := [(a2, .inl (E.2.1 0, 8, .inl vreg)), (a3, .inl (E.2.1 0, 128, .inl vblk)), (k0, .inr (1, [.ref k1, .ref k2, .int kold, .int kwai, .int ksnt])), (k1, .inl (E.2.1 0, 100, .inl ktyp)), (k2, .inl (E.2.1 0, 500, .inl ksen))]) rfl rfl (by decide) (by decide) [5, 6, 0, 1, 2, 3, 4] (WF := [(a0, .inr (0, [.ref a1, .ref a2, .ref a3, .ref k0, .int vsz, .int vmd_21, .int vpc_21, .int vba_21, .int vbo_21, .int vre_21, .int vti, .int vro, .int vha])), (a1, .inl (E.2.1 0, 1844, .inl vmem_21)), (a2, .inl (E.2.1 0, 8, .inl vreg)), (a3, .inl (E.2.1 0, 128, .inl vblk)), (k0, .inr (1, [.ref k1, .ref k2, .int kold, .int kwai, .int ksnt])), (k1, .inl (E.2.1 0, 100, .inl ktyp)), (k2, .inl (E.2.1 0, 500, .inl ksen))]) rfl (by decide) ?_
      clear hP hD hS
      intro H locs hP hD hS
      clear hr
      have h := Option.some.inj h
      have e_0 := (Prod.mk.inj h).1
      have h := (Prod.mk.inj h).2
      have e_1 := (Prod.mk.inj h).1
      have h := (Prod.mk.inj h).2
      have e_2 := (Prod.mk.inj h).1
      have h := (Prod.mk.inj h).2
      have e_3 := (Prod.mk.inj h).1
      have h := (Prod.mk.inj h).2
      have e_4 := (Prod.mk.inj h).1
      have h := (Prod.mk.inj h).2
      have e_5 := (Prod.mk.inj h).1
      have h := (Prod.mk.inj h).2
      have e_6 := (Prod.mk.inj h).1
      have h := (Prod.mk.inj h).2
      have e_7 := (Prod.mk.inj h).1
      have h := (Prod.mk.inj h).2
      have e_8 := (Prod.mk.inj h).1
      have h := (Prod.mk.inj h).2
      have e_9 := (Prod.mk.inj h).1
      have h := (Prod.mk.inj h).2
      have e_10 := (Prod.mk.inj h).1
      have h := (Prod.mk.inj h).2
      have e_11 := (Prod.mk.inj h).1
      have h := (Prod.mk.inj h).2
      have e_12 := (Prod.mk.inj h).1
      have h := (Prod.mk.inj h).2
      have e_13 := (Prod.mk.inj h).1
      have h := (Prod.mk.inj h).2
      rw [← e_0, ← e_1, ← e_2, ← e_3, ← e_4, ← e_5, ← e_6, ← e_7, ← e_8, ← e_9, ← e_10, ← e_11, ← e_12, ← e_13, ← h]
      exact jr_v J hS hP hD d_MA_step_77
    · replace h := g_f c_20 h
      refine lv_aload_n J.1 J.2.1 d_MA_step_57 rfl (lv_at hl 0 rfl) ?_
      refine jg J hJ hP 0 rfl rfl i_MA 6 (by decide) gf_MA_44 rfl d_MA_step_58 ?_
      refine lv_iconst (v := 1) J.1 J.2.1 d_MA_step_61 (by decide) ?_
      refine lv_iadd J.1 J.2.1 d_MA_step_62 ?_
      refine lv_goto (tgt := 70) J.1 J.2.1 d_MA_step_63 (by decide) ?_
      refine lv_aload_n J.1 J.2.1 d_MA_step_70 rfl (lv_at hl 0 rfl) ?_
      refine jg J hJ hP 0 rfl rfl i_MA 6 (by decide) gf_MA_44 rfl d_MA_step_71 ?_
      replace h := g_bd h
      obtain ⟨⟨vmd_22, vpc_22, vba_22, vbo_22, vre_22, vmem_22⟩, q_22, h⟩ := h
      try dsimp only at h
      have hq := ct_MA_trap l E a0 a1 a2 a3 k0 H.size vsz vmd vpc vba vbo vre vti vro vha vmem 2 (vpc + 1) vpc vmd_22 vpc_22 vba_22 vbo_22 vre_22 vmem_22 q_22
      have hr := jrunV (p := p) (e := e) (below := below) (R := ({ frames := 3, cells := 0, slots := 0, locals := 129 })) (cells := 0) (slots := 0) (As := [.int 2, .int (vpc + 1), .int vpc]) (rest := []) J hJ hA hZ hP hD hS hq [0, 1] rfl (by decide) gl_MA_66 gi_MA_trap gsel_MA_trap gini_MA gc_MA_trap hd_MA_trap ⟨rfl, rfl, Nat.le_of_ble_eq_true rfl, Nat.le_of_ble_eq_true rfl⟩ rfl rfl hl.1 rfl rfl (Nat.le_of_ble_eq_true rfl) d_MA_step_74 ⟨Nat.zero_le _, Nat.zero_le _⟩
      clear hq
      refine jk_v hr hA hP hD hS [0, 1] [2, 3, 4, 5, 6] (WR := [(a2, .inl (E.2.1 0, 8, .inl vreg)), (a3, .inl (E.2.1 0, 128, .inl vblk)), (k0, .inr (1, [.ref k1, .ref k2, .int kold, .int kwai, .int ksnt])), (k1, .inl (E.2.1 0, 100, .inl ktyp)), (k2, .inl (E.2.1 0, 500, .inl ksen))]) rfl rfl (by decide) (by decide) [5, 6, 0, 1, 2, 3, 4] (WF := [(a0, .inr (0, [.ref a1, .ref a2, .ref a3, .ref k0, .int vsz, .int vmd_22, .int vpc_22, .int vba_22, .int vbo_22, .int vre_22, .int vti, .int vro, .int vha])), (a1, .inl (E.2.1 0, 1844, .inl vmem_22)), (a2, .inl (E.2.1 0, 8, .inl vreg)), (a3, .inl (E.2.1 0, 128, .inl vblk)), (k0, .inr (1, [.ref k1, .ref k2, .int kold, .int kwai, .int ksnt])), (k1, .inl (E.2.1 0, 100, .inl ktyp)), (k2, .inl (E.2.1 0, 500, .inl ksen))]) rfl (by decide) ?_
      clear hP hD hS
      intro H locs hP hD hS
      clear hr
      have h := Option.some.inj h
      have e_0 := (Prod.mk.inj h).1
      have h := (Prod.mk.inj h).2
      have e_1 := (Prod.mk.inj h).1
      have h := (Prod.mk.inj h).2
      have e_2 := (Prod.mk.inj h).1
      have h := (Prod.mk.inj h).2
      have e_3 := (Prod.mk.inj h).1
      have h := (Prod.mk.inj h).2
      have e_4 := (Prod.mk.inj h).1
      have h := (Prod.mk.inj h).2
      have e_5 := (Prod.mk.inj h).1
      have h := (Prod.mk.inj h).2
      have e_6 := (Prod.mk.inj h).1
      have h := (Prod.mk.inj h).2
      have e_7 := (Prod.mk.inj h).1
      have h := (Prod.mk.inj h).2
      have e_8 := (Prod.mk.inj h).1
      have h := (Prod.mk.inj h).2
      have e_9 := (Prod.mk.inj h).1
      have h := (Prod.mk.inj h).2
      have e_10 := (Prod.mk.inj h).1
      have h := (Prod.mk.inj h).2
      have e_11 := (Prod.mk.inj h).1
      have h := (Prod.mk.inj h).2
      have e_12 := (Prod.mk.inj h).1
      have h := (Prod.mk.inj h).2
      have e_13 := (Prod.mk.inj h).1
      have h := (Prod.mk.inj h).2
      rw [← e_0, ← e_1, ← e_2, ← e_3, ← e_4, ← e_5, ← e_6, ← e_7, ← e_8, ← e_9, ← e_10, ← e_11, ← e_12, ← e_13, ← h]
      exact jr_v J hS hP hD d_MA_step_77
set_option maxHeartbeats 4000000 in
set_option maxRecDepth 100000 in
theorem ct_MA_step (l : Launch) (E : jz_E) (a0 a1 a2 a3 k0 k1 k2 : Nat) (sz : Nat) (vsz : Int32) (vmd : Int32) (vpc : Int32) (vba : Int32) (vbo : Int32) (vre : Int32) (vti : Int32) (vro : Int32) (vha : Int32) (vmem : Nat → Int32) (vreg : Nat → Int32) (vblk : Nat → Int32) (kold : Int32) (kwai : Int32) (ksnt : Int32) (ktyp : Nat → Int32) (ksen : Nat → Int32) (o_vmd : Int32) (o_vpc : Int32) (o_vba : Int32) (o_vbo : Int32) (o_vre : Int32) (o_vti : Int32) (o_vro : Int32) (o_vha : Int32) (o_vmem : Nat → Int32) (o_vreg : Nat → Int32) (o_vblk : Nat → Int32) (o_kold : Int32) (o_kwai : Int32) (o_ksnt : Int32) (o_ksen : Nat → Int32)  (h : f_MA_step vsz vmd vpc vba vbo vre vti vro vha vmem vreg vblk kold kwai ksnt ktyp ksen = some (o_vmd, o_vpc, o_vba, o_vbo, o_vre, o_vti, o_vro, o_vha, o_vmem, o_vreg, o_vblk, o_kold, o_kwai, o_ksnt, o_ksen)) : CTv l E y_MA_step c_MA_step 6 none ({ frames := 3, cells := 0, slots := 0, locals := 129 }) [.ref a0] [(a0, .inr (0, [.ref a1, .ref a2, .ref a3, .ref k0, .int vsz, .int vmd, .int vpc, .int vba, .int vbo, .int vre, .int vti, .int vro, .int vha])), (a1, .inl (E.2.1 0, 1844, .inl vmem)), (a2, .inl (E.2.1 0, 8, .inl vreg)), (a3, .inl (E.2.1 0, 128, .inl vblk)), (k0, .inr (1, [.ref k1, .ref k2, .int kold, .int kwai, .int ksnt])), (k1, .inl (E.2.1 0, 100, .inl ktyp)), (k2, .inl (E.2.1 0, 500, .inl ksen))] sz [(a0, .inr (0, [.ref a1, .ref a2, .ref a3, .ref k0, .int vsz, .int o_vmd, .int o_vpc, .int o_vba, .int o_vbo, .int o_vre, .int o_vti, .int o_vro, .int o_vha])), (a1, .inl (E.2.1 0, 1844, .inl o_vmem)), (a2, .inl (E.2.1 0, 8, .inl o_vreg)), (a3, .inl (E.2.1 0, 128, .inl o_vblk)), (k0, .inr (1, [.ref k1, .ref k2, .int o_kold, .int o_kwai, .int o_ksnt])), (k1, .inl (E.2.1 0, 100, .inl ktyp)), (k2, .inl (E.2.1 0, 500, .inl o_ksen))] := by
  refine jw (by decide +kernel) (Nat.le_of_ble_eq_true rfl) ?_
  intro p e s m below meth c A ls J hJ hAe hsz hA hZ hP hD hl
  rw [← hAe]
  have hS : va_S A s.heap s.heap [] := va_S.rf
  have hl : lv_has ls 6 [(0, .ref a0)] := hl
  unfold f_MA_step at h
  refine lv_aload_n J.1 J.2.1 d_MA_step_0 rfl (lv_at hl 0 rfl) ?_
  refine jg J hJ hP 0 rfl rfl i_MA 5 (by decide) gf_MA_41 rfl d_MA_step_1 ?_
  refine lv_iconst (v := 1) J.1 J.2.1 d_MA_step_4 (by decide) ?_
  refine lv_icmp_ne (tgt := 31) J.1 J.2.1 d_MA_step_5 (by decide) (fun c_23 => ?_) (fun c_23 => ?_)
  · replace h := g_f c_23 h
    exact kb_MA_step_31 J hJ hA hZ _ _ _ _ _ _ _ _ _ _ _ _ _ _ _ _ _ _ _ _ h hP hD hS (lv_sub hl [0] rfl)
  · replace h := g_t c_23 h
    refine lv_aload_n J.1 J.2.1 d_MA_step_8 rfl (lv_at hl 0 rfl) ?_
    refine jg J hJ hP 0 rfl rfl i_MA 11 (by decide) gf_MA_59 rfl d_MA_step_9 ?_
    refine lv_if_eq (tgt := 31) J.1 J.2.1 d_MA_step_12 (by decide) (fun c_24 => ?_) (fun c_24 => ?_)
    · replace h := g_t c_24 h
      exact kb_MA_step_31 J hJ hA hZ _ _ _ _ _ _ _ _ _ _ _ _ _ _ _ _ _ _ _ _ h hP hD hS (lv_sub hl [0] rfl)
    · replace h := g_f c_24 h
      refine lv_aload_n J.1 J.2.1 d_MA_step_15 rfl (lv_at hl 0 rfl) ?_
      refine lv_iconst (v := 0) J.1 J.2.1 d_MA_step_16 (by decide) ?_
      refine jp J hJ hP hD hS 0 rfl rfl i_MA t_MA t_MA_ok n_MA 11 (by decide) gf_MA_59 rfl rfl rfl (Nat.le_of_ble_eq_true rfl) d_MA_step_17 (WS' := [(a0, .inr (0, [.ref a1, .ref a2, .ref a3, .ref k0, .int vsz, .int vmd, .int vpc, .int vba, .int vbo, .int vre, .int vti, .int 0, .int vha])), (a1, .inl (E.2.1 0, 1844, .inl vmem)), (a2, .inl (E.2.1 0, 8, .inl vreg)), (a3, .inl (E.2.1 0, 128, .inl vblk)), (k0, .inr (1, [.ref k1, .ref k2, .int kold, .int kwai, .int ksnt])), (k1, .inl (E.2.1 0, 100, .inl ktyp)), (k2, .inl (E.2.1 0, 500, .inl ksen))]) rfl ?_
      clear hP hD hS
      intro H locs hP hD hS
      refine lv_aload_n J.1 J.2.1 d_MA_step_20 rfl (lv_at hl 0 rfl) ?_
      refine lv_iconst (v := 4) J.1 J.2.1 d_MA_step_21 (by decide) ?_
      refine lv_iconst (v := 0) J.1 J.2.1 d_MA_step_22 (by decide) ?_
      refine lv_aload_n J.1 J.2.1 d_MA_step_23 rfl (lv_at hl 0 rfl) ?_
      refine jg J hJ hP 0 rfl rfl i_MA 6 (by decide) gf_MA_44 rfl d_MA_step_24 ?_
      replace h := g_bd h
      obtain ⟨⟨vmd_25, vpc_25, vba_25, vbo_25, vre_25, vmem_25⟩, q_25, h⟩ := h
      try dsimp only at h
      have hq := ct_MA_trap l E a0 a1 a2 a3 k0 H.size vsz vmd vpc vba vbo vre vti 0 vha vmem 4 0 vpc vmd_25 vpc_25 vba_25 vbo_25 vre_25 vmem_25 q_25
      have hr := jrunV (p := p) (e := e) (below := below) (R := ({ frames := 3, cells := 0, slots := 0, locals := 129 })) (cells := 0) (slots := 0) (As := [.int 4, .int 0, .int vpc]) (rest := []) J hJ hA hZ hP hD hS hq [0, 1] rfl (by decide) gl_MA_66 gi_MA_trap gsel_MA_trap gini_MA gc_MA_trap hd_MA_trap ⟨rfl, rfl, Nat.le_of_ble_eq_true rfl, Nat.le_of_ble_eq_true rfl⟩ rfl rfl hl.1 rfl rfl (Nat.le_of_ble_eq_true rfl) d_MA_step_27 ⟨Nat.zero_le _, Nat.zero_le _⟩
      clear hq
      refine jk_v hr hA hP hD hS [0, 1] [2, 3, 4, 5, 6] (WR := [(a2, .inl (E.2.1 0, 8, .inl vreg)), (a3, .inl (E.2.1 0, 128, .inl vblk)), (k0, .inr (1, [.ref k1, .ref k2, .int kold, .int kwai, .int ksnt])), (k1, .inl (E.2.1 0, 100, .inl ktyp)), (k2, .inl (E.2.1 0, 500, .inl ksen))]) rfl rfl (by decide) (by decide) [5, 6, 0, 1, 2, 3, 4] (WF := [(a0, .inr (0, [.ref a1, .ref a2, .ref a3, .ref k0, .int vsz, .int vmd_25, .int vpc_25, .int vba_25, .int vbo_25, .int vre_25, .int vti, .int 0, .int vha])), (a1, .inl (E.2.1 0, 1844, .inl vmem_25)), (a2, .inl (E.2.1 0, 8, .inl vreg)), (a3, .inl (E.2.1 0, 128, .inl vblk)), (k0, .inr (1, [.ref k1, .ref k2, .int kold, .int kwai, .int ksnt])), (k1, .inl (E.2.1 0, 100, .inl ktyp)), (k2, .inl (E.2.1 0, 500, .inl ksen))]) rfl (by decide) ?_
      clear hP hD hS
      intro H locs hP hD hS
      clear hr
      have h := Option.some.inj h
      have e_0 := (Prod.mk.inj h).1
      have h := (Prod.mk.inj h).2
      have e_1 := (Prod.mk.inj h).1
      have h := (Prod.mk.inj h).2
      have e_2 := (Prod.mk.inj h).1
      have h := (Prod.mk.inj h).2
      have e_3 := (Prod.mk.inj h).1
      have h := (Prod.mk.inj h).2
      have e_4 := (Prod.mk.inj h).1
      have h := (Prod.mk.inj h).2
      have e_5 := (Prod.mk.inj h).1
      have h := (Prod.mk.inj h).2
      have e_6 := (Prod.mk.inj h).1
      have h := (Prod.mk.inj h).2
      have e_7 := (Prod.mk.inj h).1
      have h := (Prod.mk.inj h).2
      have e_8 := (Prod.mk.inj h).1
      have h := (Prod.mk.inj h).2
      have e_9 := (Prod.mk.inj h).1
      have h := (Prod.mk.inj h).2
      have e_10 := (Prod.mk.inj h).1
      have h := (Prod.mk.inj h).2
      have e_11 := (Prod.mk.inj h).1
      have h := (Prod.mk.inj h).2
      have e_12 := (Prod.mk.inj h).1
      have h := (Prod.mk.inj h).2
      have e_13 := (Prod.mk.inj h).1
      have h := (Prod.mk.inj h).2
      rw [← e_0, ← e_1, ← e_2, ← e_3, ← e_4, ← e_5, ← e_6, ← e_7, ← e_8, ← e_9, ← e_10, ← e_11, ← e_12, ← e_13, ← h]
      exact jr_v J hS hP hD d_MA_step_30
