theorem hd_GU_isTurn : y_GU_isTurn.cls ≠ "java/lang/invoke/MethodHandle" ∧ y_GU_isTurn.cls ≠ "java/lang/invoke/VarHandle" ∧ (parseMethodDescriptor y_GU_isTurn.desc).map (fun d => d.parameters.length) = some 0 := by decide +kernel
def f_GU_isTurn (gdp : Int32) (vmd : Int32) (vha : Int32) (vmem : Nat → Int32) : Option (Int32) := (if gdp = (0 : Int32) then (some 1) else (if vha = (0 : Int32) then (if vmd = (1 : Int32) then (if gdp = (1 : Int32) then (some 1) else (if (vmem (10 : Int32).toNatClampNeg) = (1 : Int32) then (some 1) else (some 0))) else (some 0)) else (some 1)))
set_option maxHeartbeats 4000000 in
set_option maxRecDepth 100000 in
theorem ct_GU_isTurn (l : Launch) (E : jz_E) (a0 a1 a2 a3 g0 k0 : Nat) (sz : Nat) (gsz : Int32) (gdp : Int32) (gst : Int32) (gsp : Int32) (vsz : Int32) (vmd : Int32) (vpc : Int32) (vba : Int32) (vbo : Int32) (vre : Int32) (vti : Int32) (vro : Int32) (vha : Int32) (vmem : Nat → Int32) (o_r : Int32)  (h : f_GU_isTurn gdp vmd vha vmem = some o_r) : CTi l E y_GU_isTurn c_GU_isTurn 1 (some .boolean) ({ frames := 0, cells := 0, slots := 0, locals := 0 }) [.ref g0] [(g0, .inr (2, [.ref a0, .int gsz, .int gdp, .int gst, .int gsp])), (a0, .inr (0, [.ref a1, .ref a2, .ref a3, .ref k0, .int vsz, .int vmd, .int vpc, .int vba, .int vbo, .int vre, .int vti, .int vro, .int vha])), (a1, .inl (E.2.1 0, 1844, .inl vmem))] sz o_r [(g0, .inr (2, [.ref a0, .int gsz, .int gdp, .int gst, .int gsp])), (a0, .inr (0, [.ref a1, .ref a2, .ref a3, .ref k0, .int vsz, .int vmd, .int vpc, .int vba, .int vbo, .int vre, .int vti, .int vro, .int vha])), (a1, .inl (E.2.1 0, 1844, .inl vmem))] := by
  refine jw (by decide +kernel) (Nat.le_of_ble_eq_true rfl) ?_
  intro p e s m below meth c A ls J hJ hAe hsz hA hZ hP hD hl
  rw [← hAe]
  have hS : va_S A s.heap s.heap [] := va_S.rf
  have hl : lv_has ls 1 [(0, .ref g0)] := hl
  unfold f_GU_isTurn at h
  refine lv_aload_n J.1 J.2.1 d_GU_isTurn_0 rfl (lv_at hl 0 rfl) ?_
  refine jg J hJ hP 0 rfl rfl i_GU 2 (by decide) gf_GU_26 rfl d_GU_isTurn_1 ?_
  refine lv_if_eq (tgt := 17) J.1 J.2.1 d_GU_isTurn_4 (by decide) (fun c_1 => ?_) (fun c_1 => ?_)
  · replace h := g_t c_1 h
    refine lv_iconst (v := 1) J.1 J.2.1 d_GU_isTurn_17 (by decide) ?_
    have h := Option.some.inj h
    rw [← h]
    exact jr_i J hS hP hD rfl d_GU_isTurn_18
  · replace h := g_f c_1 h
    refine lv_aload_n J.1 J.2.1 d_GU_isTurn_7 rfl (lv_at hl 0 rfl) ?_
    refine jg J hJ hP 0 rfl rfl i_GU 0 (by decide) gf_GU_16 rfl d_GU_isTurn_8 ?_
    refine jgN J hJ hP 1 rfl rfl i_MA 12 (by decide) gn_GU_49 rfl d_GU_isTurn_11 ?_
    refine lv_if_eq (tgt := 19) J.1 J.2.1 d_GU_isTurn_14 (by decide) (fun c_2 => ?_) (fun c_2 => ?_)
    · replace h := g_t c_2 h
      refine lv_aload_n J.1 J.2.1 d_GU_isTurn_19 rfl (lv_at hl 0 rfl) ?_
      refine jg J hJ hP 0 rfl rfl i_GU 0 (by decide) gf_GU_16 rfl d_GU_isTurn_20 ?_
      refine jgN J hJ hP 1 rfl rfl i_MA 5 (by decide) gn_GU_60 rfl d_GU_isTurn_23 ?_
      refine lv_iconst (v := 1) J.1 J.2.1 d_GU_isTurn_26 (by decide) ?_
      refine lv_icmp_eq (tgt := 32) J.1 J.2.1 d_GU_isTurn_27 (by decide) (fun c_3 => ?_) (fun c_3 => ?_)
      · replace h := g_t c_3 h
        refine lv_aload_n J.1 J.2.1 d_GU_isTurn_32 rfl (lv_at hl 0 rfl) ?_
        refine jg J hJ hP 0 rfl rfl i_GU 2 (by decide) gf_GU_26 rfl d_GU_isTurn_33 ?_
        refine lv_iconst (v := 1) J.1 J.2.1 d_GU_isTurn_36 (by decide) ?_
        refine lv_icmp_eq (tgt := 54) J.1 J.2.1 d_GU_isTurn_37 (by decide) (fun c_4 => ?_) (fun c_4 => ?_)
        · replace h := g_t c_4 h
          refine lv_iconst (v := 1) J.1 J.2.1 d_GU_isTurn_54 (by decide) ?_
          refine lv_goto (tgt := 59) J.1 J.2.1 d_GU_isTurn_55 (by decide) ?_
          have h := Option.some.inj h
          rw [← h]
          exact jr_i J hS hP hD rfl d_GU_isTurn_59
        · replace h := g_f c_4 h
          refine lv_aload_n J.1 J.2.1 d_GU_isTurn_40 rfl (lv_at hl 0 rfl) ?_
          refine jg J hJ hP 0 rfl rfl i_GU 0 (by decide) gf_GU_16 rfl d_GU_isTurn_41 ?_
          refine jgN J hJ hP 1 rfl rfl i_MA 0 (by decide) gn_GU_63 rfl d_GU_isTurn_44 ?_
          refine lv_bipush (v := 10) J.1 J.2.1 d_GU_isTurn_47 (by decide) ?_
          refine jai J hJ hP 2 rfl (by unfold vp_in; decide) d_GU_isTurn_49 ?_
          refine lv_iconst (v := 1) J.1 J.2.1 d_GU_isTurn_50 (by decide) ?_
          refine lv_icmp_ne (tgt := 58) J.1 J.2.1 d_GU_isTurn_51 (by decide) (fun c_5 => ?_) (fun c_5 => ?_)
          · replace h := g_f c_5 h
            refine lv_iconst (v := 0) J.1 J.2.1 d_GU_isTurn_58 (by decide) ?_
            have h := Option.some.inj h
            rw [← h]
            exact jr_i J hS hP hD rfl d_GU_isTurn_59
          · replace h := g_t c_5 h
            refine lv_iconst (v := 1) J.1 J.2.1 d_GU_isTurn_54 (by decide) ?_
            refine lv_goto (tgt := 59) J.1 J.2.1 d_GU_isTurn_55 (by decide) ?_
            have h := Option.some.inj h
            rw [← h]
            exact jr_i J hS hP hD rfl d_GU_isTurn_59
      · replace h := g_f c_3 h
        refine lv_iconst (v := 0) J.1 J.2.1 d_GU_isTurn_30 (by decide) ?_
        have h := Option.some.inj h
        rw [← h]
        exact jr_i J hS hP hD rfl d_GU_isTurn_31
    · replace h := g_f c_2 h
      refine lv_iconst (v := 1) J.1 J.2.1 d_GU_isTurn_17 (by decide) ?_
      have h := Option.some.inj h
      rw [← h]
      exact jr_i J hS hP hD rfl d_GU_isTurn_18

theorem hd_GU_awaitTurn : y_GU_awaitTurn.cls ≠ "java/lang/invoke/MethodHandle" ∧ y_GU_awaitTurn.cls ≠ "java/lang/invoke/VarHandle" ∧ (parseMethodDescriptor y_GU_awaitTurn.desc).map (fun d => d.parameters.length) = some 0 := by decide +kernel
def b_GU_awaitTurn_2 : Nat → Int32 → Int32 → Int32 → Int32 → Int32 → Int32 → Int32 → Int32 → Int32 → Int32 → (Nat → Int32) → (Nat → Int32) → (Nat → Int32) → Int32 → Int32 → Int32 → (Nat → Int32) → (Nat → Int32) → Int32 → Option (Int32 × Int32 × Int32 × Int32 × Int32 × Int32 × Int32 × Int32 × (Nat → Int32) × (Nat → Int32) × (Nat → Int32) × Int32 × Int32 × Int32 × (Nat → Int32))
  | 0, _, _, _, _, _, _, _, _, _, _, _, _, _, _, _, _, _, _, _ => none
  | n + 1, gdp, vsz, vmd, vpc, vba, vbo, vre, vti, vro, vha, vmem, vreg, vblk, kold, kwai, ksnt, ktyp, ksen, x1 => (if (10000 : Int32) ≤ x1 then (some (vmd, vpc, vba, vbo, vre, vti, vro, vha, vmem, vreg, vblk, kold, kwai, ksnt, ksen)) else ((f_GU_isTurn gdp vmd vha vmem).bind fun r_2 => (if r_2 = (0 : Int32) then ((f_MA_step vsz vmd vpc vba vbo vre vti vro vha vmem vreg vblk kold kwai ksnt ktyp ksen).bind fun (vmd_4, vpc_4, vba_4, vbo_4, vre_4, vti_4, vro_4, vha_4, vmem_4, vreg_4, vblk_4, kold_4, kwai_4, ksnt_4, ksen_4) => b_GU_awaitTurn_2 n gdp vsz vmd_4 vpc_4 vba_4 vbo_4 vre_4 vti_4 vro_4 vha_4 vmem_4 vreg_4 vblk_4 kold_4 kwai_4 ksnt_4 ktyp ksen_4 (x1 + 1)) else (some (vmd, vpc, vba, vbo, vre, vti, vro, vha, vmem, vreg, vblk, kold, kwai, ksnt, ksen)))))
def f_GU_awaitTurn (gdp : Int32) (vsz : Int32) (vmd : Int32) (vpc : Int32) (vba : Int32) (vbo : Int32) (vre : Int32) (vti : Int32) (vro : Int32) (vha : Int32) (vmem : Nat → Int32) (vreg : Nat → Int32) (vblk : Nat → Int32) (kold : Int32) (kwai : Int32) (ksnt : Int32) (ktyp : Nat → Int32) (ksen : Nat → Int32) : Option (Int32 × Int32 × Int32 × Int32 × Int32 × Int32 × Int32 × Int32 × (Nat → Int32) × (Nat → Int32) × (Nat → Int32) × Int32 × Int32 × Int32 × (Nat → Int32)) := b_GU_awaitTurn_2 65536 gdp vsz vmd vpc vba vbo vre vti vro vha vmem vreg vblk kold kwai ksnt ktyp ksen 0
set_option maxHeartbeats 4000000 in
set_option maxRecDepth 100000 in
theorem kb_GU_awaitTurn_2 {p : Program} {l : Launch} {e : Env} {s : State} {m : MethodId} {below : List Frame} {meth : Method} {c : Code} {A : Nat → Prop} {E : jz_E} {a0 a1 a2 a3 g0 k0 k1 k2 : Nat} {o_vmd : Int32} {o_vpc : Int32} {o_vba : Int32} {o_vbo : Int32} {o_vre : Int32} {o_vti : Int32} {o_vro : Int32} {o_vha : Int32} {o_vmem : Nat → Int32} {o_vreg : Nat → Int32} {o_vblk : Nat → Int32} {o_kold : Int32} {o_kwai : Int32} {o_ksnt : Int32} {o_ksen : Nat → Int32} (J : JC p s m ([.ref g0] : List Value).toArray meth c c_GU_awaitTurn 2 none y_GU_awaitTurn.cls) (hJ : jE E s) (hA : ∀ q : Nat, s.heap.size ≤ q → A q) (hZ : jz_ok E A s s.heap) : ∀ (n : Nat) (gsz : Int32) (gdp : Int32) (gst : Int32) (gsp : Int32) (vsz : Int32) (vmd : Int32) (vpc : Int32) (vba : Int32) (vbo : Int32) (vre : Int32) (vti : Int32) (vro : Int32) (vha : Int32) (vmem : Nat → Int32) (vreg : Nat → Int32) (vblk : Nat → Int32) (kold : Int32) (kwai : Int32) (ksnt : Int32) (ktyp : Nat → Int32) (ksen : Nat → Int32) (x1 : Int32) (H : Heap) (locs : List Loc) (ls : Array Slot), b_GU_awaitTurn_2 n gdp vsz vmd vpc vba vbo vre vti vro vha vmem vreg vblk kold kwai ksnt ktyp ksen x1 = some (o_vmd, o_vpc, o_vba, o_vbo, o_vre, o_vti, o_vro, o_vha, o_vmem, o_vreg, o_vblk, o_kold, o_kwai, o_ksnt, o_ksen) → va_P E.1 classes [(g0, .inr (2, [.ref a0, .int gsz, .int gdp, .int gst, .int gsp])), (a0, .inr (0, [.ref a1, .ref a2, .ref a3, .ref k0, .int vsz, .int vmd, .int vpc, .int vba, .int vbo, .int vre, .int vti, .int vro, .int vha])), (a1, .inl (E.2.1 0, 1844, .inl vmem)), (a2, .inl (E.2.1 0, 8, .inl vreg)), (a3, .inl (E.2.1 0, 128, .inl vblk)), (k0, .inr (1, [.ref k1, .ref k2, .int kold, .int kwai, .int ksnt])), (k1, .inl (E.2.1 0, 100, .inl ktyp)), (k2, .inl (E.2.1 0, 500, .inl ksen))] H → va_D A [(g0, .inr (2, [.ref a0, .int gsz, .int gdp, .int gst, .int gsp])), (a0, .inr (0, [.ref a1, .ref a2, .ref a3, .ref k0, .int vsz, .int vmd, .int vpc, .int vba, .int vbo, .int vre, .int vti, .int vro, .int vha])), (a1, .inl (E.2.1 0, 1844, .inl vmem)), (a2, .inl (E.2.1 0, 8, .inl vreg)), (a3, .inl (E.2.1 0, 128, .inl vblk)), (k0, .inr (1, [.ref k1, .ref k2, .int kold, .int kwai, .int ksnt])), (k1, .inl (E.2.1 0, 100, .inl ktyp)), (k2, .inl (E.2.1 0, 500, .inl ksen))] → va_S A s.heap H locs → lv_has ls 2 [(0, .ref g0), (1, .int x1)] → W p l e ({ frames := 4, cells := 0, slots := 0, locals := 154 }) s m ([.ref g0] : List Value).toArray below meth c H locs 0 0 (MQ below (va_Qv (fun (u : va_W) => u = [(g0, .inr (2, [.ref a0, .int gsz, .int gdp, .int gst, .int gsp])), (a0, .inr (0, [.ref a1, .ref a2, .ref a3, .ref k0, .int vsz, .int o_vmd, .int o_vpc, .int o_vba, .int o_vbo, .int o_vre, .int o_vti, .int o_vro, .int o_vha])), (a1, .inl (E.2.1 0, 1844, .inl o_vmem)), (a2, .inl (E.2.1 0, 8, .inl o_vreg)), (a3, .inl (E.2.1 0, 128, .inl o_vblk)), (k0, .inr (1, [.ref k1, .ref k2, .int o_kold, .int o_kwai, .int o_ksnt])), (k1, .inl (E.2.1 0, 100, .inl ktyp)), (k2, .inl (E.2.1 0, 500, .inl o_ksen))]) (BW E A) A) ([.ref g0] : List Value).toArray s 0 0 A) (F0 m 2 ls []) := by
  intro n
  induction n with
  | zero => intro gsz gdp gst gsp vsz vmd vpc vba vbo vre vti vro vha vmem vreg vblk kold kwai ksnt ktyp ksen x1 H locs ls h; cases h
  | succ n ih =>
    intro gsz gdp gst gsp vsz vmd vpc vba vbo vre vti vro vha vmem vreg vblk kold kwai ksnt ktyp ksen x1 H locs ls h hP hD hS hl
    rw [b_GU_awaitTurn_2] at h
    refine lv_iload_n J.1 J.2.1 d_GU_awaitTurn_2 rfl (lv_at hl 1 rfl) ?_
    refine lv_sipush (v := 10000) J.1 J.2.1 d_GU_awaitTurn_3 (by decide) ?_
    refine lv_icmp_ge (tgt := 29) J.1 J.2.1 d_GU_awaitTurn_6 (by decide) (fun c_1 => ?_) (fun c_1 => ?_)
    · replace h := g_t c_1 h
      have h := Option.some.inj h
      have e_0 := (Prod.mk.inj h).1
      have h := (Prod.mk.inj h).2
      have e_1 := (Prod.mk.inj h).1
      have h := (Prod.mk.inj h).2
      have e_2 := (Prod.mk.inj h).1
      have h := (Prod.mk.inj h).2
      have e_3 := (Prod.mk.inj h).1
      have h := (Prod.mk.inj h).2
      have e_4 := (Prod.mk.inj h).1
      have h := (Prod.mk.inj h).2
      have e_5 := (Prod.mk.inj h).1
      have h := (Prod.mk.inj h).2
      have e_6 := (Prod.mk.inj h).1
      have h := (Prod.mk.inj h).2
      have e_7 := (Prod.mk.inj h).1
      have h := (Prod.mk.inj h).2
      have e_8 := (Prod.mk.inj h).1
      have h := (Prod.mk.inj h).2
      have e_9 := (Prod.mk.inj h).1
      have h := (Prod.mk.inj h).2
      have e_10 := (Prod.mk.inj h).1
      have h := (Prod.mk.inj h).2
      have e_11 := (Prod.mk.inj h).1
      have h := (Prod.mk.inj h).2
      have e_12 := (Prod.mk.inj h).1
      have h := (Prod.mk.inj h).2
      have e_13 := (Prod.mk.inj h).1
      have h := (Prod.mk.inj h).2
      rw [← e_0, ← e_1, ← e_2, ← e_3, ← e_4, ← e_5, ← e_6, ← e_7, ← e_8, ← e_9, ← e_10, ← e_11, ← e_12, ← e_13, ← h]
      exact jr_v J hS hP hD d_GU_awaitTurn_29
    · replace h := g_f c_1 h
      refine lv_aload_n J.1 J.2.1 d_GU_awaitTurn_9 rfl (lv_at hl 0 rfl) ?_
      replace h := g_bd h
      obtain ⟨r_2, q_2, h⟩ := h
      have hq := ct_GU_isTurn l E a0 a1 a2 a3 g0 k0 H.size gsz gdp gst gsp vsz vmd vpc vba vbo vre vti vro vha vmem r_2 q_2
      have hr := jrunV (p := p) (e := e) (below := below) (R := ({ frames := 4, cells := 0, slots := 0, locals := 154 })) (cells := 0) (slots := 0) (As := []) (rest := []) J hJ hA hZ hP hD hS hq [0, 1, 2] rfl (by decide) gl_GU_56 gi_GU_isTurn gsel_GU_isTurn gini_GU gc_GU_isTurn hd_GU_isTurn ⟨rfl, rfl, Nat.le_of_ble_eq_true rfl, Nat.le_of_ble_eq_true rfl⟩ rfl rfl hl.1 rfl rfl (Nat.le_of_ble_eq_true rfl) d_GU_awaitTurn_10 ⟨Nat.zero_le _, Nat.zero_le _⟩
      clear hq
      refine jk_i hr hA hP hD hS [0, 1, 2] [3, 4, 5, 6, 7] (WR := [(a2, .inl (E.2.1 0, 8, .inl vreg)), (a3, .inl (E.2.1 0, 128, .inl vblk)), (k0, .inr (1, [.ref k1, .ref k2, .int kold, .int kwai, .int ksnt])), (k1, .inl (E.2.1 0, 100, .inl ktyp)), (k2, .inl (E.2.1 0, 500, .inl ksen))]) rfl rfl (by decide) (by decide) [5, 6, 7, 0, 1, 2, 3, 4] (WF := [(g0, .inr (2, [.ref a0, .int gsz, .int gdp, .int gst, .int gsp])), (a0, .inr (0, [.ref a1, .ref a2, .ref a3, .ref k0, .int vsz, .int vmd, .int vpc, .int vba, .int vbo, .int vre, .int vti, .int vro, .int vha])), (a1, .inl (E.2.1 0, 1844, .inl vmem)), (a2, .inl (E.2.1 0, 8, .inl vreg)), (a3, .inl (E.2.1 0, 128, .inl vblk)), (k0, .inr (1, [.ref k1, .ref k2, .int kold, .int kwai, .int ksnt])), (k1, .inl (E.2.1 0, 100, .inl ktyp)), (k2, .inl (E.2.1 0, 500, .inl ksen))]) rfl (by decide) ?_
      clear hP hD hS
      intro H locs hP hD hS
      clear hr
      refine lv_if_ne (tgt := 29) J.1 J.2.1 d_GU_awaitTurn_13 (by decide) (fun c_3 => ?_) (fun c_3 => ?_)
      · replace h := g_f c_3 h
        have h := Option.some.inj h
        have e_0 := (Prod.mk.inj h).1
        have h := (Prod.mk.inj h).2
        have e_1 := (Prod.mk.inj h).1
        have h := (Prod.mk.inj h).2
        have e_2 := (Prod.mk.inj h).1
        have h := (Prod.mk.inj h).2
        have e_3 := (Prod.mk.inj h).1
        have h := (Prod.mk.inj h).2
        have e_4 := (Prod.mk.inj h).1
        have h := (Prod.mk.inj h).2
        have e_5 := (Prod.mk.inj h).1
        have h := (Prod.mk.inj h).2
        have e_6 := (Prod.mk.inj h).1
        have h := (Prod.mk.inj h).2
        have e_7 := (Prod.mk.inj h).1
        have h := (Prod.mk.inj h).2
        have e_8 := (Prod.mk.inj h).1
        have h := (Prod.mk.inj h).2
        have e_9 := (Prod.mk.inj h).1
        have h := (Prod.mk.inj h).2
        have e_10 := (Prod.mk.inj h).1
        have h := (Prod.mk.inj h).2
        have e_11 := (Prod.mk.inj h).1
        have h := (Prod.mk.inj h).2
        have e_12 := (Prod.mk.inj h).1
        have h := (Prod.mk.inj h).2
        have e_13 := (Prod.mk.inj h).1
        have h := (Prod.mk.inj h).2
        rw [← e_0, ← e_1, ← e_2, ← e_3, ← e_4, ← e_5, ← e_6, ← e_7, ← e_8, ← e_9, ← e_10, ← e_11, ← e_12, ← e_13, ← h]
        exact jr_v J hS hP hD d_GU_awaitTurn_29
      · replace h := g_t c_3 h
        refine lv_aload_n J.1 J.2.1 d_GU_awaitTurn_16 rfl (lv_at hl 0 rfl) ?_
        refine jg J hJ hP 0 rfl rfl i_GU 0 (by decide) gf_GU_16 rfl d_GU_awaitTurn_17 ?_
        replace h := g_bd h
        obtain ⟨⟨vmd_4, vpc_4, vba_4, vbo_4, vre_4, vti_4, vro_4, vha_4, vmem_4, vreg_4, vblk_4, kold_4, kwai_4, ksnt_4, ksen_4⟩, q_4, h⟩ := h
        try dsimp only at h
        have hq := ct_MA_step l E a0 a1 a2 a3 k0 k1 k2 H.size vsz vmd vpc vba vbo vre vti vro vha vmem vreg vblk kold kwai ksnt ktyp ksen vmd_4 vpc_4 vba_4 vbo_4 vre_4 vti_4 vro_4 vha_4 vmem_4 vreg_4 vblk_4 kold_4 kwai_4 ksnt_4 ksen_4 q_4
        have hr := jrunV (p := p) (e := e) (below := below) (R := ({ frames := 4, cells := 0, slots := 0, locals := 154 })) (cells := 0) (slots := 0) (As := []) (rest := []) J hJ hA hZ hP hD hS hq [1, 2, 3, 4, 5, 6, 7] rfl (by decide) gl_GU_53 gi_MA_step gsel_MA_step gini_MA gc_MA_step hd_MA_step ⟨rfl, rfl, Nat.le_of_ble_eq_true rfl, Nat.le_of_ble_eq_true rfl⟩ rfl rfl hl.1 rfl rfl (Nat.le_of_ble_eq_true rfl) d_GU_awaitTurn_20 ⟨Nat.zero_le _, Nat.zero_le _⟩
        clear hq
        refine jk_v hr hA hP hD hS [1, 2, 3, 4, 5, 6, 7] [0] (WR := [(g0, .inr (2, [.ref a0, .int gsz, .int gdp, .int gst, .int gsp]))]) rfl rfl (by decide) (by decide) [0, 1, 2, 3, 4, 5, 6, 7] (WF := [(g0, .inr (2, [.ref a0, .int gsz, .int gdp, .int gst, .int gsp])), (a0, .inr (0, [.ref a1, .ref a2, .ref a3, .ref k0, .int vsz, .int vmd_4, .int vpc_4, .int vba_4, .int vbo_4, .int vre_4, .int vti_4, .int vro_4, .int vha_4])), (a1, .inl (E.2.1 0, 1844, .inl vmem_4)), (a2, .inl (E.2.1 0, 8, .inl vreg_4)), (a3, .inl (E.2.1 0, 128, .inl vblk_4)), (k0, .inr (1, [.ref k1, .ref k2, .int kold_4, .int kwai_4, .int ksnt_4])), (k1, .inl (E.2.1 0, 100, .inl ktyp)), (k2, .inl (E.2.1 0, 500, .inl ksen_4))]) rfl (by decide) ?_
        clear hP hD hS
        intro H locs hP hD hS
        clear hr
        refine lv_iinc (v := (x1 + 1)) (lv' := [(1, .int (x1 + 1)), (0, .ref g0)]) J.1 J.2.1 d_GU_awaitTurn_23 hl (k := 1) rfl rfl (by decide) rfl ?_
        clear hl
        intro ls hl
        refine lv_goto (tgt := 2) J.1 J.2.1 d_GU_awaitTurn_26 (by decide) ?_
        exact ih _ _ _ _ _ _ _ _ _ _ _ _ _ _ _ _ _ _ _ _ _ _ _ _ _ h hP hD hS (lv_sub hl [1, 0] rfl)
set_option maxHeartbeats 4000000 in
set_option maxRecDepth 100000 in
theorem ct_GU_awaitTurn (l : Launch) (E : jz_E) (a0 a1 a2 a3 g0 k0 k1 k2 : Nat) (sz : Nat) (gsz : Int32) (gdp : Int32) (gst : Int32) (gsp : Int32) (vsz : Int32) (vmd : Int32) (vpc : Int32) (vba : Int32) (vbo : Int32) (vre : Int32) (vti : Int32) (vro : Int32) (vha : Int32) (vmem : Nat → Int32) (vreg : Nat → Int32) (vblk : Nat → Int32) (kold : Int32) (kwai : Int32) (ksnt : Int32) (ktyp : Nat → Int32) (ksen : Nat → Int32) (o_vmd : Int32) (o_vpc : Int32) (o_vba : Int32) (o_vbo : Int32) (o_vre : Int32) (o_vti : Int32) (o_vro : Int32) (o_vha : Int32) (o_vmem : Nat → Int32) (o_vreg : Nat → Int32) (o_vblk : Nat → Int32) (o_kold : Int32) (o_kwai : Int32) (o_ksnt : Int32) (o_ksen : Nat → Int32)  (h : f_GU_awaitTurn gdp vsz vmd vpc vba vbo vre vti vro vha vmem vreg vblk kold kwai ksnt ktyp ksen = some (o_vmd, o_vpc, o_vba, o_vbo, o_vre, o_vti, o_vro, o_vha, o_vmem, o_vreg, o_vblk, o_kold, o_kwai, o_ksnt, o_ksen)) : CTv l E y_GU_awaitTurn c_GU_awaitTurn 2 none ({ frames := 4, cells := 0, slots := 0, locals := 154 }) [.ref g0] [(g0, .inr (2, [.ref a0, .int gsz, .int gdp, .int gst, .int gsp])), (a0, .inr (0, [.ref a1, .ref a2, .ref a3, .ref k0, .int vsz, .int vmd, .int vpc, .int vba, .int vbo, .int vre, .int vti, .int vro, .int vha])), (a1, .inl (E.2.1 0, 1844, .inl vmem)), (a2, .inl (E.2.1 0, 8, .inl vreg)), (a3, .inl (E.2.1 0, 128, .inl vblk)), (k0, .inr (1, [.ref k1, .ref k2, .int kold, .int kwai, .int ksnt])), (k1, .inl (E.2.1 0, 100, .inl ktyp)), (k2, .inl (E.2.1 0, 500, .inl ksen))] sz [(g0, .inr (2, [.ref a0, .int gsz, .int gdp, .int gst, .int gsp])), (a0, .inr (0, [.ref a1, .ref a2, .ref a3, .ref k0, .int vsz, .int o_vmd, .int o_vpc, .int o_vba, .int o_vbo, .int o_vre, .int o_vti, .int o_vro, .int o_vha])), (a1, .inl (E.2.1 0, 1844, .inl o_vmem)), (a2, .inl (E.2.1 0, 8, .inl o_vreg)), (a3, .inl (E.2.1 0, 128, .inl o_vblk)), (k0, .inr (1, [.ref k1, .ref k2, .int o_kold, .int o_kwai, .int o_ksnt])), (k1, .inl (E.2.1 0, 100, .inl ktyp)), (k2, .inl (E.2.1 0, 500, .inl o_ksen))] := by
  refine jw (by decide +kernel) (Nat.le_of_ble_eq_true rfl) ?_
  intro p e s m below meth c A ls J hJ hAe hsz hA hZ hP hD hl
  rw [← hAe]
  have hS : va_S A s.heap s.heap [] := va_S.rf
  have hl : lv_has ls 2 [(0, .ref g0)] := hl
  unfold f_GU_awaitTurn at h
  refine lv_iconst (v := 0) J.1 J.2.1 d_GU_awaitTurn_0 (by decide) ?_
  refine lv_istore_n (lv' := [(1, .int 0), (0, .ref g0)]) J.1 J.2.1 d_GU_awaitTurn_1 rfl hl (by decide) rfl ?_
  clear hl
  intro ls hl
  exact kb_GU_awaitTurn_2 J hJ hA hZ _ _ _ _ _ _ _ _ _ _ _ _ _ _ _ _ _ _ _ _ _ _ _ _ _ _ h hP hD hS (lv_sub hl [1, 0] rfl)

theorem hd_GU_advance : y_GU_advance.cls ≠ "java/lang/invoke/MethodHandle" ∧ y_GU_advance.cls ≠ "java/lang/invoke/VarHandle" ∧ (parseMethodDescriptor y_GU_advance.desc).map (fun d => d.parameters.length) = some 1 := by decide +kernel
def b_GU_advance_2 : Nat → Int32 → Int32 → Int32 → Int32 → Int32 → Int32 → Int32 → Int32 → Int32 → Int32 → Int32 → (Nat → Int32) → (Nat → Int32) → (Nat → Int32) → Int32 → Int32 → Int32 → (Nat → Int32) → (Nat → Int32) → Int32 → Int32 → Option (Int32 × Int32 × Int32 × Int32 × Int32 × Int32 × Int32 × Int32 × Int32 × Int32 × (Nat → Int32) × (Nat → Int32) × (Nat → Int32) × Int32 × Int32 × Int32 × (Nat → Int32))
  | 0, _, _, _, _, _, _, _, _, _, _, _, _, _, _, _, _, _, _, _, _, _ => none
  | n + 1, gdp, gsp, vsz, vmd, vpc, vba, vbo, vre, vti, vro, vha, vmem, vreg, vblk, kold, kwai, ksnt, ktyp, ksen, x1, x2 => (if x1 ≤ x2 then (some (x2, (gsp + x2), vmd, vpc, vba, vbo, vre, vti, vro, vha, vmem, vreg, vblk, kold, kwai, ksnt, ksen)) else (if vha = (0 : Int32) then ((f_MA_step vsz vmd vpc vba vbo vre vti vro vha vmem vreg vblk kold kwai ksnt ktyp ksen).bind fun (vmd_3, vpc_3, vba_3, vbo_3, vre_3, vti_3, vro_3, vha_3, vmem_3, vreg_3, vblk_3, kold_3, kwai_3, ksnt_3, ksen_3) => ((f_GU_awaitTurn gdp vsz vmd_3 vpc_3 vba_3 vbo_3 vre_3 vti_3 vro_3 vha_3 vmem_3 vreg_3 vblk_3 kold_3 kwai_3 ksnt_3 ktyp ksen_3).bind fun (vmd_4, vpc_4, vba_4, vbo_4, vre_4, vti_4, vro_4, vha_4, vmem_4, vreg_4, vblk_4, kold_4, kwai_4, ksnt_4, ksen_4) => b_GU_advance_2 n gdp gsp vsz vmd_4 vpc_4 vba_4 vbo_4 vre_4 vti_4 vro_4 vha_4 vmem_4 vreg_4 vblk_4 kold_4 kwai_4 ksnt_4 ktyp ksen_4 x1 (x2 + 1))) else (some (x2, (gsp + x2), vmd, vpc, vba, vbo, vre, vti, vro, vha, vmem, vreg, vblk, kold, kwai, ksnt, ksen))))
def f_GU_advance (gdp : Int32) (gsp : Int32) (vsz : Int32) (vmd : Int32) (vpc : Int32) (vba : Int32) (vbo : Int32) (vre : Int32) (vti : Int32) (vro : Int32) (vha : Int32) (vmem : Nat → Int32) (vreg : Nat → Int32) (vblk : Nat → Int32) (kold : Int32) (kwai : Int32) (ksnt : Int32) (ktyp : Nat → Int32) (ksen : Nat → Int32) (p1 : Int32) : Option (Int32 × Int32 × Int32 × Int32 × Int32 × Int32 × Int32 × Int32 × Int32 × Int32 × (Nat → Int32) × (Nat → Int32) × (Nat → Int32) × Int32 × Int32 × Int32 × (Nat → Int32)) := b_GU_advance_2 65536 gdp gsp vsz vmd vpc vba vbo vre vti vro vha vmem vreg vblk kold kwai ksnt ktyp ksen p1 0
set_option maxHeartbeats 4000000 in
set_option maxRecDepth 100000 in
theorem kb_GU_advance_2 {p : Program} {l : Launch} {e : Env} {s : State} {m : MethodId} {below : List Frame} {meth : Method} {c : Code} {A : Nat → Prop} {E : jz_E} {a0 a1 a2 a3 g0 k0 k1 k2 : Nat} {p1 : Int32} {o_r : Int32} {o_gsp : Int32} {o_vmd : Int32} {o_vpc : Int32} {o_vba : Int32} {o_vbo : Int32} {o_vre : Int32} {o_vti : Int32} {o_vro : Int32} {o_vha : Int32} {o_vmem : Nat → Int32} {o_vreg : Nat → Int32} {o_vblk : Nat → Int32} {o_kold : Int32} {o_kwai : Int32} {o_ksnt : Int32} {o_ksen : Nat → Int32} (J : JC p s m ([.ref g0, .int p1] : List Value).toArray meth c c_GU_advance 3 (some .int) y_GU_advance.cls) (hJ : jE E s) (hA : ∀ q : Nat, s.heap.size ≤ q → A q) (hZ : jz_ok E A s s.heap) : ∀ (n : Nat) (gsz : Int32) (gdp : Int32) (gst : Int32) (gsp : Int32) (vsz : Int32) (vmd : Int32) (vpc : Int32) (vba : Int32) (vbo : Int32) (vre : Int32) (vti : Int32) (vro : Int32) (vha : Int32) (vmem : Nat → Int32) (vreg : Nat → Int32) (vblk : Nat → Int32) (kold : Int32) (kwai : Int32) (ksnt : Int32) (ktyp : Nat → Int32) (ksen : Nat → Int32) (x1 : Int32) (x2 : Int32) (H : Heap) (locs : List Loc) (ls : Array Slot), b_GU_advance_2 n gdp gsp vsz vmd vpc vba vbo vre vti vro vha vmem vreg vblk kold kwai ksnt ktyp ksen x1 x2 = some (o_r, o_gsp, o_vmd, o_vpc, o_vba, o_vbo, o_vre, o_vti, o_vro, o_vha, o_vmem, o_vreg, o_vblk, o_kold, o_kwai, o_ksnt, o_ksen) → va_P E.1 classes [(g0, .inr (2, [.ref a0, .int gsz, .int gdp, .int gst, .int gsp])), (a0, .inr (0, [.ref a1, .ref a2, .ref a3, .ref k0, .int vsz, .int vmd, .int vpc, .int vba, .int vbo, .int vre, .int vti, .int vro, .int vha])), (a1, .inl (E.2.1 0, 1844, .inl vmem)), (a2, .inl (E.2.1 0, 8, .inl vreg)), (a3, .inl (E.2.1 0, 128, .inl vblk)), (k0, .inr (1, [.ref k1, .ref k2, .int kold, .int kwai, .int ksnt])), (k1, .inl (E.2.1 0, 100, .inl ktyp)), (k2, .inl (E.2.1 0, 500, .inl ksen))] H → va_D A [(g0, .inr (2, [.ref a0, .int gsz, .int gdp, .int gst, .int gsp])), (a0, .inr (0, [.ref a1, .ref a2, .ref a3, .ref k0, .int vsz, .int vmd, .int vpc, .int vba, .int vbo, .int vre, .int vti, .int vro, .int vha])), (a1, .inl (E.2.1 0, 1844, .inl vmem)), (a2, .inl (E.2.1 0, 8, .inl vreg)), (a3, .inl (E.2.1 0, 128, .inl vblk)), (k0, .inr (1, [.ref k1, .ref k2, .int kold, .int kwai, .int ksnt])), (k1, .inl (E.2.1 0, 100, .inl ktyp)), (k2, .inl (E.2.1 0, 500, .inl ksen))] → va_S A s.heap H locs → lv_has ls 3 [(0, .ref g0), (1, .int x1), (2, .int x2)] → W p l e ({ frames := 5, cells := 0, slots := 0, locals := 175 }) s m ([.ref g0, .int p1] : List Value).toArray below meth c H locs 0 0 (MQ below (va_Qi (fun (r' : Int32) (u : va_W) => r' = o_r ∧ u = [(g0, .inr (2, [.ref a0, .int gsz, .int gdp, .int gst, .int o_gsp])), (a0, .inr (0, [.ref a1, .ref a2, .ref a3, .ref k0, .int vsz, .int o_vmd, .int o_vpc, .int o_vba, .int o_vbo, .int o_vre, .int o_vti, .int o_vro, .int o_vha])), (a1, .inl (E.2.1 0, 1844, .inl o_vmem)), (a2, .inl (E.2.1 0, 8, .inl o_vreg)), (a3, .inl (E.2.1 0, 128, .inl o_vblk)), (k0, .inr (1, [.ref k1, .ref k2, .int o_kold, .int o_kwai, .int o_ksnt])), (k1, .inl (E.2.1 0, 100, .inl ktyp)), (k2, .inl (E.2.1 0, 500, .inl o_ksen))]) (BW E A) A) ([.ref g0, .int p1] : List Value).toArray s 0 0 A) (F0 m 2 ls []) := by
  intro n
  induction n with
  | zero => intro gsz gdp gst gsp vsz vmd vpc vba vbo vre vti vro vha vmem vreg vblk kold kwai ksnt ktyp ksen x1 x2 H locs ls h; cases h
  | succ n ih =>
    intro gsz gdp gst gsp vsz vmd vpc vba vbo vre vti vro vha vmem vreg vblk kold kwai ksnt ktyp ksen x1 x2 H locs ls h hP hD hS hl
    rw [b_GU_advance_2] at h
    refine lv_iload_n J.1 J.2.1 d_GU_advance_2 rfl (lv_at hl 2 rfl) ?_
    refine lv_iload_n J.1 J.2.1 d_GU_advance_3 rfl (lv_at hl 1 rfl) ?_
    refine lv_icmp_ge (tgt := 34) J.1 J.2.1 d_GU_advance_4 (by decide) (fun c_1 => ?_) (fun c_1 => ?_)
    · replace h := g_t c_1 h
      refine lv_aload_n J.1 J.2.1 d_GU_advance_34 rfl (lv_at hl 0 rfl) ?_
      refine lv_dup J.1 J.2.1 d_GU_advance_35 rfl ?_
      refine jg J hJ hP 0 rfl rfl i_GU 4 (by decide) gf_GU_32 rfl d_GU_advance_36 ?_
      refine lv_iload_n J.1 J.2.1 d_GU_advance_39 rfl (lv_at hl 2 rfl) ?_
      refine lv_iadd J.1 J.2.1 d_GU_advance_40 ?_
      refine jp J hJ hP hD hS 0 rfl rfl i_GU t_GU t_GU_ok n_GU 4 (by decide) gf_GU_32 rfl rfl rfl (Nat.le_of_ble_eq_true rfl) d_GU_advance_41 (WS' := [(g0, .inr (2, [.ref a0, .int gsz, .int gdp, .int gst, .int (gsp + x2)])), (a0, .inr (0, [.ref a1, .ref a2, .ref a3, .ref k0, .int vsz, .int vmd, .int vpc, .int vba, .int vbo, .int vre, .int vti, .int vro, .int vha])), (a1, .inl (E.2.1 0, 1844, .inl vmem)), (a2, .inl (E.2.1 0, 8, .inl vreg)), (a3, .inl (E.2.1 0, 128, .inl vblk)), (k0, .inr (1, [.ref k1, .ref k2, .int kold, .int kwai, .int ksnt])), (k1, .inl (E.2.1 0, 100, .inl ktyp)), (k2, .inl (E.2.1 0, 500, .inl ksen))]) rfl ?_
      clear hP hD hS
      intro H locs hP hD hS
      refine lv_iload_n J.1 J.2.1 d_GU_advance_44 rfl (lv_at hl 2 rfl) ?_
      have h := Option.some.inj h
      have e_0 := (Prod.mk.inj h).1
      have h := (Prod.mk.inj h).2
      have e_1 := (Prod.mk.inj h).1
      have h := (Prod.mk.inj h).2
      have e_2 := (Prod.mk.inj h).1
      have h := (Prod.mk.inj h).2
      have e_3 := (Prod.mk.inj h).1
      have h := (Prod.mk.inj h).2
      have e_4 := (Prod.mk.inj h).1
      have h := (Prod.mk.inj h).2
      have e_5 := (Prod.mk.inj h).1
      have h := (Prod.mk.inj h).2
      have e_6 := (Prod.mk.inj h).1
      have h := (Prod.mk.inj h).2
      have e_7 := (Prod.mk.inj h).1
      have h := (Prod.mk.inj h).2
      have e_8 := (Prod.mk.inj h).1
      have h := (Prod.mk.inj h).2
      have e_9 := (Prod.mk.inj h).1
      have h := (Prod.mk.inj h).2
      have e_10 := (Prod.mk.inj h).1
      have h := (Prod.mk.inj h).2
      have e_11 := (Prod.mk.inj h).1
      have h := (Prod.mk.inj h).2
      have e_12 := (Prod.mk.inj h).1
      have h := (Prod.mk.inj h).2
      have e_13 := (Prod.mk.inj h).1
      have h := (Prod.mk.inj h).2
      have e_14 := (Prod.mk.inj h).1
      have h := (Prod.mk.inj h).2
      have e_15 := (Prod.mk.inj h).1
      have h := (Prod.mk.inj h).2
      rw [← e_0, ← e_1, ← e_2, ← e_3, ← e_4, ← e_5, ← e_6, ← e_7, ← e_8, ← e_9, ← e_10, ← e_11, ← e_12, ← e_13, ← e_14, ← e_15, ← h]
      exact jr_i J hS hP hD rfl d_GU_advance_45
    · replace h := g_f c_1 h
      refine lv_aload_n J.1 J.2.1 d_GU_advance_7 rfl (lv_at hl 0 rfl) ?_
      refine jg J hJ hP 0 rfl rfl i_GU 0 (by decide) gf_GU_16 rfl d_GU_advance_8 ?_
      refine jgN J hJ hP 1 rfl rfl i_MA 12 (by decide) gn_GU_49 rfl d_GU_advance_11 ?_
      refine lv_if_ne (tgt := 34) J.1 J.2.1 d_GU_advance_14 (by decide) (fun c_2 => ?_) (fun c_2 => ?_)
      · replace h := g_f c_2 h
        refine lv_aload_n J.1 J.2.1 d_GU_advance_34 rfl (lv_at hl 0 rfl) ?_
        refine lv_dup J.1 J.2.1 d_GU_advance_35 rfl ?_
        refine jg J hJ hP 0 rfl rfl i_GU 4 (by decide) gf_GU_32 rfl d_GU_advance_36 ?_
        refine lv_iload_n J.1 J.2.1 d_GU_advance_39 rfl (lv_at hl 2 rfl) ?_
        refine lv_iadd J.1 J.2.1 d_GU_advance_40 ?_
        refine jp J hJ hP hD hS 0 rfl rfl i_GU t_GU t_GU_ok n_GU 4 (by decide) gf_GU_32 rfl rfl rfl (Nat.le_of_ble_eq_true rfl) d_GU_advance_41 (WS' := [(g0, .inr (2, [.ref a0, .int gsz, .int gdp, .int gst, .int (gsp + x2)])), (a0, .inr (0, [.ref a1, .ref a2, .ref a3, .ref k0, .int vsz, .int vmd, .int vpc, .int vba, .int vbo, .int vre, .int vti, .int vro, .int vha])), (a1, .inl (E.2.1 0, 1844, .inl vmem)), (a2, .inl (E.2.1 0, 8, .inl vreg)), (a3, .inl (E.2.1 0, 128, .inl vblk)), (k0, .inr (1, [.ref k1, .ref k2, .int kold, .int kwai, .int ksnt])), (k1, .inl (E.2.1 0, 100, .inl ktyp)), (k2, .inl (E.2.1 0, 500, .inl ksen))]) rfl ?_
        clear hP hD hS
        intro H locs hP hD hS
        refine lv_iload_n J.1 J.2.1 d_GU_advance_44 rfl (lv_at hl 2 rfl) ?_
        have h := Option.some.inj h
        have e_0 := (Prod.mk.inj h).1
        have h := (Prod.mk.inj h).2
        have e_1 := (Prod.mk.inj h).1
        have h := (Prod.mk.inj h).2
        have e_2 := (Prod.mk.inj h).1
        have h := (Prod.mk.inj h).2
        have e_3 := (Prod.mk.inj h).1
        have h := (Prod.mk.inj h).2
        have e_4 := (Prod.mk.inj h).1
        have h := (Prod.mk.inj h).2
        have e_5 := (Prod.mk.inj h).1
        have h := (Prod.mk.inj h).2
        have e_6 := (Prod.mk.inj h).1
        have h := (Prod.mk.inj h).2
        have e_7 := (Prod.mk.inj h).1
        have h := (Prod.mk.inj h).2
        have e_8 := (Prod.mk.inj h).1
        have h := (Prod.mk.inj h).2
        have e_9 := (Prod.mk.inj h).1
        have h := (Prod.mk.inj h).2
        have e_10 := (Prod.mk.inj h).1
        have h := (Prod.mk.inj h).2
        have e_11 := (Prod.mk.inj h).1
        have h := (Prod.mk.inj h).2
        have e_12 := (Prod.mk.inj h).1
        have h := (Prod.mk.inj h).2
        have e_13 := (Prod.mk.inj h).1
        have h := (Prod.mk.inj h).2
        have e_14 := (Prod.mk.inj h).1
        have h := (Prod.mk.inj h).2
        have e_15 := (Prod.mk.inj h).1
        have h := (Prod.mk.inj h).2
        rw [← e_0, ← e_1, ← e_2, ← e_3, ← e_4, ← e_5, ← e_6, ← e_7, ← e_8, ← e_9, ← e_10, ← e_11, ← e_12, ← e_13, ← e_14, ← e_15, ← h]
        exact jr_i J hS hP hD rfl d_GU_advance_45
      · replace h := g_t c_2 h
        refine lv_aload_n J.1 J.2.1 d_GU_advance_17 rfl (lv_at hl 0 rfl) ?_
        refine jg J hJ hP 0 rfl rfl i_GU 0 (by decide) gf_GU_16 rfl d_GU_advance_18 ?_
        replace h := g_bd h
        obtain ⟨⟨vmd_3, vpc_3, vba_3, vbo_3, vre_3, vti_3, vro_3, vha_3, vmem_3, vreg_3, vblk_3, kold_3, kwai_3, ksnt_3, ksen_3⟩, q_3, h⟩ := h
        try dsimp only at h
        have hq := ct_MA_step l E a0 a1 a2 a3 k0 k1 k2 H.size vsz vmd vpc vba vbo vre vti vro vha vmem vreg vblk kold kwai ksnt ktyp ksen vmd_3 vpc_3 vba_3 vbo_3 vre_3 vti_3 vro_3 vha_3 vmem_3 vreg_3 vblk_3 kold_3 kwai_3 ksnt_3 ksen_3 q_3
        have hr := jrunV (p := p) (e := e) (below := below) (R := ({ frames := 5, cells := 0, slots := 0, locals := 175 })) (cells := 0) (slots := 0) (As := []) (rest := []) J hJ hA hZ hP hD hS hq [1, 2, 3, 4, 5, 6, 7] rfl (by decide) gl_GU_53 gi_MA_step gsel_MA_step gini_MA gc_MA_step hd_MA_step ⟨rfl, rfl, Nat.le_of_ble_eq_true rfl, Nat.le_of_ble_eq_true rfl⟩ rfl rfl hl.1 rfl rfl (Nat.le_of_ble_eq_true rfl) d_GU_advance_21 ⟨Nat.zero_le _, Nat.zero_le _⟩
        clear hq
        refine jk_v hr hA hP hD hS [1, 2, 3, 4, 5, 6, 7] [0] (WR := [(g0, .inr (2, [.ref a0, .int gsz, .int gdp, .int gst, .int gsp]))]) rfl rfl (by decide) (by decide) [0, 1, 2, 3, 4, 5, 6, 7] (WF := [(g0, .inr (2, [.ref a0, .int gsz, .int gdp, .int gst, .int gsp])), (a0, .inr (0, [.ref a1, .ref a2, .ref a3, .ref k0, .int vsz, .int vmd_3, .int vpc_3, .int vba_3, .int vbo_3, .int vre_3, .int vti_3, .int vro_3, .int vha_3])), (a1, .inl (E.2.1 0, 1844, .inl vmem_3)), (a2, .inl (E.2.1 0, 8, .inl vreg_3)), (a3, .inl (E.2.1 0, 128, .inl vblk_3)), (k0, .inr (1, [.ref k1, .ref k2, .int kold_3, .int kwai_3, .int ksnt_3])), (k1, .inl (E.2.1 0, 100, .inl ktyp)), (k2, .inl (E.2.1 0, 500, .inl ksen_3))]) rfl (by decide) ?_
        clear hP hD hS
        intro H locs hP hD hS
        clear hr
        refine lv_aload_n J.1 J.2.1 d_GU_advance_24 rfl (lv_at hl 0 rfl) ?_
        replace h := g_bd h
        obtain ⟨⟨vmd_4, vpc_4, vba_4, vbo_4, vre_4, vti_4, vro_4, vha_4, vmem_4, vreg_4, vblk_4, kold_4, kwai_4, ksnt_4, ksen_4⟩, q_4, h⟩ := h
        try dsimp only at h
        have hq := ct_GU_awaitTurn l E a0 a1 a2 a3 g0 k0 k1 k2 H.size gsz gdp gst gsp vsz vmd_3 vpc_3 vba_3 vbo_3 vre_3 vti_3 vro_3 vha_3 vmem_3 vreg_3 vblk_3 kold_3 kwai_3 ksnt_3 ktyp ksen_3 vmd_4 vpc_4 vba_4 vbo_4 vre_4 vti_4 vro_4 vha_4 vmem_4 vreg_4 vblk_4 kold_4 kwai_4 ksnt_4 ksen_4 q_4
        have hr := jrunV (p := p) (e := e) (below := below) (R := ({ frames := 5, cells := 0, slots := 0, locals := 175 })) (cells := 0) (slots := 0) (As := []) (rest := []) J hJ hA hZ hP hD hS hq [0, 1, 2, 3, 4, 5, 6, 7] rfl (by decide) gl_GU_46 gi_GU_awaitTurn gsel_GU_awaitTurn gini_GU gc_GU_awaitTurn hd_GU_awaitTurn ⟨rfl, rfl, Nat.le_of_ble_eq_true rfl, Nat.le_of_ble_eq_true rfl⟩ rfl rfl hl.1 rfl rfl (Nat.le_of_ble_eq_true rfl) d_GU_advance_25 ⟨Nat.zero_le _, Nat.zero_le _⟩
        clear hq
        refine jk_v hr hA hP hD hS [0, 1, 2, 3, 4, 5, 6, 7] [] (WR := []) rfl rfl (by decide) (by decide) [0, 1, 2, 3, 4, 5, 6, 7] (WF := [(g0, .inr (2, [.ref a0, .int gsz, .int gdp, .int gst, .int gsp])), (a0, .inr (0, [.ref a1, .ref a2, .ref a3, .ref k0, .int vsz, .int vmd_4, .int vpc_4, .int vba_4, .int vbo_4, .int vre_4, .int vti_4, .int vro_4, .int vha_4])), (a1, .inl (E.2.1 0, 1844, .inl vmem_4)), (a2, .inl (E.2.1 0, 8, .inl vreg_4)), (a3, .inl (E.2.1 0, 128, .inl vblk_4)), (k0, .inr (1, [.ref k1, .ref k2, .int kold_4, .int kwai_4, .int ksnt_4])), (k1, .inl (E.2.1 0, 100, .inl ktyp)), (k2, .inl (E.2.1 0, 500, .inl ksen_4))]) rfl (by decide) ?_
        clear hP hD hS
        intro H locs hP hD hS
        clear hr
        refine lv_iinc (v := (x2 + 1)) (lv' := [(2, .int (x2 + 1)), (0, .ref g0), (1, .int x1)]) J.1 J.2.1 d_GU_advance_28 hl (k := 2) rfl rfl (by decide) rfl ?_
        clear hl
        intro ls hl
        refine lv_goto (tgt := 2) J.1 J.2.1 d_GU_advance_31 (by decide) ?_
        exact ih _ _ _ _ _ _ _ _ _ _ _ _ _ _ _ _ _ _ _ _ _ _ _ _ _ _ h hP hD hS (lv_sub hl [1, 2, 0] rfl)
set_option maxHeartbeats 4000000 in
set_option maxRecDepth 100000 in
theorem ct_GU_advance (l : Launch) (E : jz_E) (a0 a1 a2 a3 g0 k0 k1 k2 : Nat) (sz : Nat) (gsz : Int32) (gdp : Int32) (gst : Int32) (gsp : Int32) (vsz : Int32) (vmd : Int32) (vpc : Int32) (vba : Int32) (vbo : Int32) (vre : Int32) (vti : Int32) (vro : Int32) (vha : Int32) (vmem : Nat → Int32) (vreg : Nat → Int32) (vblk : Nat → Int32) (kold : Int32) (kwai : Int32) (ksnt : Int32) (ktyp : Nat → Int32) (ksen : Nat → Int32) (p1 : Int32) (o_r : Int32) (o_gsp : Int32) (o_vmd : Int32) (o_vpc : Int32) (o_vba : Int32) (o_vbo : Int32) (o_vre : Int32) (o_vti : Int32) (o_vro : Int32) (o_vha : Int32) (o_vmem : Nat → Int32) (o_vreg : Nat → Int32) (o_vblk : Nat → Int32) (o_kold : Int32) (o_kwai : Int32) (o_ksnt : Int32) (o_ksen : Nat → Int32)  (h : f_GU_advance gdp gsp vsz vmd vpc vba vbo vre vti vro vha vmem vreg vblk kold kwai ksnt ktyp ksen p1 = some (o_r, o_gsp, o_vmd, o_vpc, o_vba, o_vbo, o_vre, o_vti, o_vro, o_vha, o_vmem, o_vreg, o_vblk, o_kold, o_kwai, o_ksnt, o_ksen)) : CTi l E y_GU_advance c_GU_advance 3 (some .int) ({ frames := 5, cells := 0, slots := 0, locals := 175 }) [.ref g0, .int p1] [(g0, .inr (2, [.ref a0, .int gsz, .int gdp, .int gst, .int gsp])), (a0, .inr (0, [.ref a1, .ref a2, .ref a3, .ref k0, .int vsz, .int vmd, .int vpc, .int vba, .int vbo, .int vre, .int vti, .int vro, .int vha])), (a1, .inl (E.2.1 0, 1844, .inl vmem)), (a2, .inl (E.2.1 0, 8, .inl vreg)), (a3, .inl (E.2.1 0, 128, .inl vblk)), (k0, .inr (1, [.ref k1, .ref k2, .int kold, .int kwai, .int ksnt])), (k1, .inl (E.2.1 0, 100, .inl ktyp)), (k2, .inl (E.2.1 0, 500, .inl ksen))] sz o_r [(g0, .inr (2, [.ref a0, .int gsz, .int gdp, .int gst, .int o_gsp])), (a0, .inr (0, [.ref a1, .ref a2, .ref a3, .ref k0, .int vsz, .int o_vmd, .int o_vpc, .int o_vba, .int o_vbo, .int o_vre, .int o_vti, .int o_vro, .int o_vha])), (a1, .inl (E.2.1 0, 1844, .inl o_vmem)), (a2, .inl (E.2.1 0, 8, .inl o_vreg)), (a3, .inl (E.2.1 0, 128, .inl o_vblk)), (k0, .inr (1, [.ref k1, .ref k2, .int o_kold, .int o_kwai, .int o_ksnt])), (k1, .inl (E.2.1 0, 100, .inl ktyp)), (k2, .inl (E.2.1 0, 500, .inl o_ksen))] := by
  refine jw (by decide +kernel) (Nat.le_of_ble_eq_true rfl) ?_
  intro p e s m below meth c A ls J hJ hAe hsz hA hZ hP hD hl
  rw [← hAe]
  have hS : va_S A s.heap s.heap [] := va_S.rf
  have hl : lv_has ls 3 [(0, .ref g0), (1, .int p1)] := hl
  unfold f_GU_advance at h
  refine lv_iconst (v := 0) J.1 J.2.1 d_GU_advance_0 (by decide) ?_
  refine lv_istore_n (lv' := [(2, .int 0), (0, .ref g0), (1, .int p1)]) J.1 J.2.1 d_GU_advance_1 rfl hl (by decide) rfl ?_
  clear hl
  intro ls hl
  exact kb_GU_advance_2 J hJ hA hZ _ _ _ _ _ _ _ _ _ _ _ _ _ _ _ _ _ _ _ _ _ _ _ _ _ _ _ h hP hD hS (lv_sub hl [1, 2, 0] rfl)

theorem hd_GU_kept : y_GU_kept.cls ≠ "java/lang/invoke/MethodHandle" ∧ y_GU_kept.cls ≠ "java/lang/invoke/VarHandle" ∧ (parseMethodDescriptor y_GU_kept.desc).map (fun d => d.parameters.length) = some 1 := by decide +kernel
def f_GU_kept (gst : Int32) (vmem : Nat → Int32) (p1 : Int32) : Option (Int32) := (if (0 : Int32) ≤ ((gst - 410) + p1) then (if ck ((gst - 410) + p1) 1844 then (some (vmem ((gst - 410) + p1).toNatClampNeg)) else none) else (some (-1)))
set_option maxHeartbeats 4000000 in
set_option maxRecDepth 100000 in
theorem ct_GU_kept (l : Launch) (E : jz_E) (a0 a1 a2 a3 g0 k0 : Nat) (sz : Nat) (gsz : Int32) (gdp : Int32) (gst : Int32) (gsp : Int32) (vsz : Int32) (vmd : Int32) (vpc : Int32) (vba : Int32) (vbo : Int32) (vre : Int32) (vti : Int32) (vro : Int32) (vha : Int32) (vmem : Nat → Int32) (p1 : Int32) (o_r : Int32)  (h : f_GU_kept gst vmem p1 = some o_r) : CTi l E y_GU_kept c_GU_kept 3 (some .int) ({ frames := 0, cells := 0, slots := 0, locals := 0 }) [.ref g0, .int p1] [(g0, .inr (2, [.ref a0, .int gsz, .int gdp, .int gst, .int gsp])), (a0, .inr (0, [.ref a1, .ref a2, .ref a3, .ref k0, .int vsz, .int vmd, .int vpc, .int vba, .int vbo, .int vre, .int vti, .int vro, .int vha])), (a1, .inl (E.2.1 0, 1844, .inl vmem))] sz o_r [(g0, .inr (2, [.ref a0, .int gsz, .int gdp, .int gst, .int gsp])), (a0, .inr (0, [.ref a1, .ref a2, .ref a3, .ref k0, .int vsz, .int vmd, .int vpc, .int vba, .int vbo, .int vre, .int vti, .int vro, .int vha])), (a1, .inl (E.2.1 0, 1844, .inl vmem))] := by
  refine jw (by decide +kernel) (Nat.le_of_ble_eq_true rfl) ?_
  intro p e s m below meth c A ls J hJ hAe hsz hA hZ hP hD hl
  rw [← hAe]
  have hS : va_S A s.heap s.heap [] := va_S.rf
  have hl : lv_has ls 3 [(0, .ref g0), (1, .int p1)] := hl
  unfold f_GU_kept at h
  refine lv_aload_n J.1 J.2.1 d_GU_kept_0 rfl (lv_at hl 0 rfl) ?_
  refine jg J hJ hP 0 rfl rfl i_GU 3 (by decide) gf_GU_29 rfl d_GU_kept_1 ?_
  refine lv_sipush (v := 410) J.1 J.2.1 d_GU_kept_4 (by decide) ?_
  refine lv_isub J.1 J.2.1 d_GU_kept_7 ?_
  refine lv_iload_n J.1 J.2.1 d_GU_kept_8 rfl (lv_at hl 1 rfl) ?_
  refine lv_iadd J.1 J.2.1 d_GU_kept_9 ?_
  refine lv_istore_n (lv' := [(2, .int ((gst - 410) + p1)), (0, .ref g0), (1, .int p1)]) J.1 J.2.1 d_GU_kept_10 rfl hl (by decide) rfl ?_
  clear hl
  intro ls hl
  refine lv_iload_n J.1 J.2.1 d_GU_kept_11 rfl (lv_at hl 0 rfl) ?_
  refine lv_if_ge (tgt := 19) J.1 J.2.1 d_GU_kept_12 (by decide) (fun c_1 => ?_) (fun c_1 => ?_)
  · replace h := g_t c_1 h
    refine lv_aload_n J.1 J.2.1 d_GU_kept_19 rfl (lv_at hl 1 rfl) ?_
    refine jg J hJ hP 0 rfl rfl i_GU 0 (by decide) gf_GU_16 rfl d_GU_kept_20 ?_
    refine jgN J hJ hP 1 rfl rfl i_MA 0 (by decide) gn_GU_63 rfl d_GU_kept_23 ?_
    refine lv_iload_n J.1 J.2.1 d_GU_kept_26 rfl (lv_at hl 0 rfl) ?_
    replace h := g_ck h
    obtain ⟨k_2, h⟩ := h
    refine jai J hJ hP 2 rfl k_2 d_GU_kept_27 ?_
    have h := Option.some.inj h
    rw [← h]
    exact jr_i J hS hP hD rfl d_GU_kept_28
  · replace h := g_f c_1 h
    refine lv_iconst (v := (-1)) J.1 J.2.1 d_GU_kept_15 (by decide) ?_
    refine lv_goto (tgt := 28) J.1 J.2.1 d_GU_kept_16 (by decide) ?_
    have h := Option.some.inj h
    rw [← h]
    exact jr_i J hS hP hD rfl d_GU_kept_28

theorem hd_GU_mode : y_GU_mode.cls ≠ "java/lang/invoke/MethodHandle" ∧ y_GU_mode.cls ≠ "java/lang/invoke/VarHandle" ∧ (parseMethodDescriptor y_GU_mode.desc).map (fun d => d.parameters.length) = some 0 := by decide +kernel
def f_GU_mode (gdp : Int32) (gst : Int32) (vmd : Int32) (vmem : Nat → Int32) : Option (Int32) := (if gdp = (0 : Int32) then (some vmd) else ((f_GU_kept gst vmem 10).bind fun r_2 => (some r_2)))
set_option maxHeartbeats 4000000 in
set_option maxRecDepth 100000 in
theorem ct_GU_mode (l : Launch) (E : jz_E) (a0 a1 a2 a3 g0 k0 : Nat) (sz : Nat) (gsz : Int32) (gdp : Int32) (gst : Int32) (gsp : Int32) (vsz : Int32) (vmd : Int32) (vpc : Int32) (vba : Int32) (vbo : Int32) (vre : Int32) (vti : Int32) (vro : Int32) (vha : Int32) (vmem : Nat → Int32) (o_r : Int32)  (h : f_GU_mode gdp gst vmd vmem = some o_r) : CTi l E y_GU_mode c_GU_mode 1 (some .int) ({ frames := 1, cells := 0, slots := 0, locals := 22 }) [.ref g0] [(g0, .inr (2, [.ref a0, .int gsz, .int gdp, .int gst, .int gsp])), (a0, .inr (0, [.ref a1, .ref a2, .ref a3, .ref k0, .int vsz, .int vmd, .int vpc, .int vba, .int vbo, .int vre, .int vti, .int vro, .int vha])), (a1, .inl (E.2.1 0, 1844, .inl vmem))] sz o_r [(g0, .inr (2, [.ref a0, .int gsz, .int gdp, .int gst, .int gsp])), (a0, .inr (0, [.ref a1, .ref a2, .ref a3, .ref k0, .int vsz, .int vmd, .int vpc, .int vba, .int vbo, .int vre, .int vti, .int vro, .int vha])), (a1, .inl (E.2.1 0, 1844, .inl vmem))] := by
  refine jw (by decide +kernel) (Nat.le_of_ble_eq_true rfl) ?_
  intro p e s m below meth c A ls J hJ hAe hsz hA hZ hP hD hl
  rw [← hAe]
  have hS : va_S A s.heap s.heap [] := va_S.rf
  have hl : lv_has ls 1 [(0, .ref g0)] := hl
  unfold f_GU_mode at h
  refine lv_aload_n J.1 J.2.1 d_GU_mode_0 rfl (lv_at hl 0 rfl) ?_
  refine jg J hJ hP 0 rfl rfl i_GU 2 (by decide) gf_GU_26 rfl d_GU_mode_1 ?_
  refine lv_if_ne (tgt := 17) J.1 J.2.1 d_GU_mode_4 (by decide) (fun c_1 => ?_) (fun c_1 => ?_)
  · replace h := g_f c_1 h
    refine lv_aload_n J.1 J.2.1 d_GU_mode_17 rfl (lv_at hl 0 rfl) ?_
    refine lv_bipush (v := 10) J.1 J.2.1 d_GU_mode_18 (by decide) ?_
    replace h := g_bd h
    obtain ⟨r_2, q_2, h⟩ := h
    have hq := ct_GU_kept l E a0 a1 a2 a3 g0 k0 s.heap.size gsz gdp gst gsp vsz vmd vpc vba vbo vre vti vro vha vmem 10 r_2 q_2
    have hr := jrunV (p := p) (e := e) (below := below) (R := ({ frames := 1, cells := 0, slots := 0, locals := 22 })) (cells := 0) (slots := 0) (As := [.int 10]) (rest := []) J hJ hA hZ hP hD hS hq [0, 1, 2] rfl (by decide) gl_GU_75 gi_GU_kept gsel_GU_kept gini_GU gc_GU_kept hd_GU_kept ⟨rfl, rfl, Nat.le_of_ble_eq_true rfl, Nat.le_of_ble_eq_true rfl⟩ rfl rfl hl.1 rfl rfl (Nat.le_of_ble_eq_true rfl) d_GU_mode_20 ⟨Nat.zero_le _, Nat.zero_le _⟩
    clear hq
    refine jk_i hr hA hP hD hS [0, 1, 2] [] (WR := []) rfl rfl (by decide) (by decide) [0, 1, 2] (WF := [(g0, .inr (2, [.ref a0, .int gsz, .int gdp, .int gst, .int gsp])), (a0, .inr (0, [.ref a1, .ref a2, .ref a3, .ref k0, .int vsz, .int vmd, .int vpc, .int vba, .int vbo, .int vre, .int vti, .int vro, .int vha])), (a1, .inl (E.2.1 0, 1844, .inl vmem))]) rfl (by decide) ?_
    clear hP hD hS
    intro H locs hP hD hS
    clear hr
    have h := Option.some.inj h
    rw [← h]
    exact jr_i J hS hP hD rfl d_GU_mode_23
  · replace h := g_t c_1 h
    refine lv_aload_n J.1 J.2.1 d_GU_mode_7 rfl (lv_at hl 0 rfl) ?_
    refine jg J hJ hP 0 rfl rfl i_GU 0 (by decide) gf_GU_16 rfl d_GU_mode_8 ?_
    refine jgN J hJ hP 1 rfl rfl i_MA 5 (by decide) gn_GU_60 rfl d_GU_mode_11 ?_
    refine lv_goto (tgt := 23) J.1 J.2.1 d_GU_mode_14 (by decide) ?_
    have h := Option.some.inj h
    rw [← h]
    exact jr_i J hS hP hD rfl d_GU_mode_23

theorem hd_GU_pc : y_GU_pc.cls ≠ "java/lang/invoke/MethodHandle" ∧ y_GU_pc.cls ≠ "java/lang/invoke/VarHandle" ∧ (parseMethodDescriptor y_GU_pc.desc).map (fun d => d.parameters.length) = some 0 := by decide +kernel
def f_GU_pc (gdp : Int32) (gst : Int32) (vpc : Int32) (vha : Int32) (vmem : Nat → Int32) : Option (Int32) := (if gdp ≤ (0 : Int32) then (some vpc) else (if vha = (0 : Int32) then (some vpc) else ((f_GU_kept gst vmem 1).bind fun r_3 => (some r_3))))
set_option maxHeartbeats 4000000 in
set_option maxRecDepth 100000 in
theorem ct_GU_pc (l : Launch) (E : jz_E) (a0 a1 a2 a3 g0 k0 : Nat) (sz : Nat) (gsz : Int32) (gdp : Int32) (gst : Int32) (gsp : Int32) (vsz : Int32) (vmd : Int32) (vpc : Int32) (vba : Int32) (vbo : Int32) (vre : Int32) (vti : Int32) (vro : Int32) (vha : Int32) (vmem : Nat → Int32) (o_r : Int32)  (h : f_GU_pc gdp gst vpc vha vmem = some o_r) : CTi l E y_GU_pc c_GU_pc 1 (some .int) ({ frames := 1, cells := 0, slots := 0, locals := 22 }) [.ref g0] [(g0, .inr (2, [.ref a0, .int gsz, .int gdp, .int gst, .int gsp])), (a0, .inr (0, [.ref a1, .ref a2, .ref a3, .ref k0, .int vsz, .int vmd, .int vpc, .int vba, .int vbo, .int vre, .int vti, .int vro, .int vha])), (a1, .inl (E.2.1 0, 1844, .inl vmem))] sz o_r [(g0, .inr (2, [.ref a0, .int gsz, .int gdp, .int gst, .int gsp])), (a0, .inr (0, [.ref a1, .ref a2, .ref a3, .ref k0, .int vsz, .int vmd, .int vpc, .int vba, .int vbo, .int vre, .int vti, .int vro, .int vha])), (a1, .inl (E.2.1 0, 1844, .inl vmem))] := by
  refine jw (by decide +kernel) (Nat.le_of_ble_eq_true rfl) ?_
  intro p e s m below meth c A ls J hJ hAe hsz hA hZ hP hD hl
  rw [← hAe]
  have hS : va_S A s.heap s.heap [] := va_S.rf
  have hl : lv_has ls 1 [(0, .ref g0)] := hl
  unfold f_GU_pc at h
  refine lv_aload_n J.1 J.2.1 d_GU_pc_0 rfl (lv_at hl 0 rfl) ?_
  refine jg J hJ hP 0 rfl rfl i_GU 2 (by decide) gf_GU_26 rfl d_GU_pc_1 ?_
  refine lv_if_le (tgt := 25) J.1 J.2.1 d_GU_pc_4 (by decide) (fun c_1 => ?_) (fun c_1 => ?_)
  · replace h := g_t c_1 h
    refine lv_aload_n J.1 J.2.1 d_GU_pc_25 rfl (lv_at hl 0 rfl) ?_
    refine jg J hJ hP 0 rfl rfl i_GU 0 (by decide) gf_GU_16 rfl d_GU_pc_26 ?_
    refine jgN J hJ hP 1 rfl rfl i_MA 6 (by decide) gn_GU_103 rfl d_GU_pc_29 ?_
    have h := Option.some.inj h
    rw [← h]
    exact jr_i J hS hP hD rfl d_GU_pc_32
  · replace h := g_f c_1 h
    refine lv_aload_n J.1 J.2.1 d_GU_pc_7 rfl (lv_at hl 0 rfl) ?_
    refine jg J hJ hP 0 rfl rfl i_GU 0 (by decide) gf_GU_16 rfl d_GU_pc_8 ?_
    refine jgN J hJ hP 1 rfl rfl i_MA 12 (by decide) gn_GU_49 rfl d_GU_pc_11 ?_
    refine lv_if_eq (tgt := 25) J.1 J.2.1 d_GU_pc_14 (by decide) (fun c_2 => ?_) (fun c_2 => ?_)
    · replace h := g_t c_2 h
      refine lv_aload_n J.1 J.2.1 d_GU_pc_25 rfl (lv_at hl 0 rfl) ?_
      refine jg J hJ hP 0 rfl rfl i_GU 0 (by decide) gf_GU_16 rfl d_GU_pc_26 ?_
      refine jgN J hJ hP 1 rfl rfl i_MA 6 (by decide) gn_GU_103 rfl d_GU_pc_29 ?_
      have h := Option.some.inj h
      rw [← h]
      exact jr_i J hS hP hD rfl d_GU_pc_32
    · replace h := g_f c_2 h
      refine lv_aload_n J.1 J.2.1 d_GU_pc_17 rfl (lv_at hl 0 rfl) ?_
      refine lv_iconst (v := 1) J.1 J.2.1 d_GU_pc_18 (by decide) ?_
      replace h := g_bd h
      obtain ⟨r_3, q_3, h⟩ := h
      have hq := ct_GU_kept l E a0 a1 a2 a3 g0 k0 s.heap.size gsz gdp gst gsp vsz vmd vpc vba vbo vre vti vro vha vmem 1 r_3 q_3
      have hr := jrunV (p := p) (e := e) (below := below) (R := ({ frames := 1, cells := 0, slots := 0, locals := 22 })) (cells := 0) (slots := 0) (As := [.int 1]) (rest := []) J hJ hA hZ hP hD hS hq [0, 1, 2] rfl (by decide) gl_GU_75 gi_GU_kept gsel_GU_kept gini_GU gc_GU_kept hd_GU_kept ⟨rfl, rfl, Nat.le_of_ble_eq_true rfl, Nat.le_of_ble_eq_true rfl⟩ rfl rfl hl.1 rfl rfl (Nat.le_of_ble_eq_true rfl) d_GU_pc_19 ⟨Nat.zero_le _, Nat.zero_le _⟩
      clear hq
      refine jk_i hr hA hP hD hS [0, 1, 2] [] (WR := []) rfl rfl (by decide) (by decide) [0, 1, 2] (WF := [(g0, .inr (2, [.ref a0, .int gsz, .int gdp, .int gst, .int gsp])), (a0, .inr (0, [.ref a1, .ref a2, .ref a3, .ref k0, .int vsz, .int vmd, .int vpc, .int vba, .int vbo, .int vre, .int vti, .int vro, .int vha])), (a1, .inl (E.2.1 0, 1844, .inl vmem))]) rfl (by decide) ?_
      clear hP hD hS
      intro H locs hP hD hS
      clear hr
      refine lv_goto (tgt := 32) J.1 J.2.1 d_GU_pc_22 (by decide) ?_
      have h := Option.some.inj h
      rw [← h]
      exact jr_i J hS hP hD rfl d_GU_pc_32

theorem hd_GU_timer : y_GU_timer.cls ≠ "java/lang/invoke/MethodHandle" ∧ y_GU_timer.cls ≠ "java/lang/invoke/VarHandle" ∧ (parseMethodDescriptor y_GU_timer.desc).map (fun d => d.parameters.length) = some 0 := by decide +kernel
def f_GU_timer (gdp : Int32) (gst : Int32) (vmd : Int32) (vti : Int32) (vmem : Nat → Int32) : Option (Int32) := (if gdp ≤ (0 : Int32) then (some vti) else ((f_GU_mode gdp gst vmd vmem).bind fun r_2 => (if r_2 = (0 : Int32) then ((f_GU_kept gst vmem 13).bind fun r_4 => (some r_4)) else (some vti))))
set_option maxHeartbeats 4000000 in
set_option maxRecDepth 100000 in
theorem ct_GU_timer (l : Launch) (E : jz_E) (a0 a1 a2 a3 g0 k0 : Nat) (sz : Nat) (gsz : Int32) (gdp : Int32) (gst : Int32) (gsp : Int32) (vsz : Int32) (vmd : Int32) (vpc : Int32) (vba : Int32) (vbo : Int32) (vre : Int32) (vti : Int32) (vro : Int32) (vha : Int32) (vmem : Nat → Int32) (o_r : Int32)  (h : f_GU_timer gdp gst vmd vti vmem = some o_r) : CTi l E y_GU_timer c_GU_timer 1 (some .int) ({ frames := 2, cells := 0, slots := 0, locals := 42 }) [.ref g0] [(g0, .inr (2, [.ref a0, .int gsz, .int gdp, .int gst, .int gsp])), (a0, .inr (0, [.ref a1, .ref a2, .ref a3, .ref k0, .int vsz, .int vmd, .int vpc, .int vba, .int vbo, .int vre, .int vti, .int vro, .int vha])), (a1, .inl (E.2.1 0, 1844, .inl vmem))] sz o_r [(g0, .inr (2, [.ref a0, .int gsz, .int gdp, .int gst, .int gsp])), (a0, .inr (0, [.ref a1, .ref a2, .ref a3, .ref k0, .int vsz, .int vmd, .int vpc, .int vba, .int vbo, .int vre, .int vti, .int vro, .int vha])), (a1, .inl (E.2.1 0, 1844, .inl vmem))] := by
  refine jw (by decide +kernel) (Nat.le_of_ble_eq_true rfl) ?_
  intro p e s m below meth c A ls J hJ hAe hsz hA hZ hP hD hl
  rw [← hAe]
  have hS : va_S A s.heap s.heap [] := va_S.rf
  have hl : lv_has ls 1 [(0, .ref g0)] := hl
  unfold f_GU_timer at h
  refine lv_aload_n J.1 J.2.1 d_GU_timer_0 rfl (lv_at hl 0 rfl) ?_
  refine jg J hJ hP 0 rfl rfl i_GU 2 (by decide) gf_GU_26 rfl d_GU_timer_1 ?_
  refine lv_if_le (tgt := 23) J.1 J.2.1 d_GU_timer_4 (by decide) (fun c_1 => ?_) (fun c_1 => ?_)
  · replace h := g_t c_1 h
    refine lv_aload_n J.1 J.2.1 d_GU_timer_23 rfl (lv_at hl 0 rfl) ?_
    refine jg J hJ hP 0 rfl rfl i_GU 0 (by decide) gf_GU_16 rfl d_GU_timer_24 ?_
    refine jgN J hJ hP 1 rfl rfl i_MA 10 (by decide) gn_GU_105 rfl d_GU_timer_27 ?_
    have h := Option.some.inj h
    rw [← h]
    exact jr_i J hS hP hD rfl d_GU_timer_30
  · replace h := g_f c_1 h
    refine lv_aload_n J.1 J.2.1 d_GU_timer_7 rfl (lv_at hl 0 rfl) ?_
    replace h := g_bd h
    obtain ⟨r_2, q_2, h⟩ := h
    have hq := ct_GU_mode l E a0 a1 a2 a3 g0 k0 s.heap.size gsz gdp gst gsp vsz vmd vpc vba vbo vre vti vro vha vmem r_2 q_2
    have hr := jrunV (p := p) (e := e) (below := below) (R := ({ frames := 2, cells := 0, slots := 0, locals := 42 })) (cells := 0) (slots := 0) (As := []) (rest := []) J hJ hA hZ hP hD hS hq [0, 1, 2] rfl (by decide) gl_GU_66 gi_GU_mode gsel_GU_mode gini_GU gc_GU_mode hd_GU_mode ⟨rfl, rfl, Nat.le_of_ble_eq_true rfl, Nat.le_of_ble_eq_true rfl⟩ rfl rfl hl.1 rfl rfl (Nat.le_of_ble_eq_true rfl) d_GU_timer_8 ⟨Nat.zero_le _, Nat.zero_le _⟩
    clear hq
    refine jk_i hr hA hP hD hS [0, 1, 2] [] (WR := []) rfl rfl (by decide) (by decide) [0, 1, 2] (WF := [(g0, .inr (2, [.ref a0, .int gsz, .int gdp, .int gst, .int gsp])), (a0, .inr (0, [.ref a1, .ref a2, .ref a3, .ref k0, .int vsz, .int vmd, .int vpc, .int vba, .int vbo, .int vre, .int vti, .int vro, .int vha])), (a1, .inl (E.2.1 0, 1844, .inl vmem))]) rfl (by decide) ?_
    clear hP hD hS
    intro H locs hP hD hS
    clear hr
    refine lv_if_ne (tgt := 23) J.1 J.2.1 d_GU_timer_11 (by decide) (fun c_3 => ?_) (fun c_3 => ?_)
    · replace h := g_f c_3 h
      refine lv_aload_n J.1 J.2.1 d_GU_timer_23 rfl (lv_at hl 0 rfl) ?_
      refine jg J hJ hP 0 rfl rfl i_GU 0 (by decide) gf_GU_16 rfl d_GU_timer_24 ?_
      refine jgN J hJ hP 1 rfl rfl i_MA 10 (by decide) gn_GU_105 rfl d_GU_timer_27 ?_
      have h := Option.some.inj h
      rw [← h]
      exact jr_i J hS hP hD rfl d_GU_timer_30
    · replace h := g_t c_3 h
      refine lv_aload_n J.1 J.2.1 d_GU_timer_14 rfl (lv_at hl 0 rfl) ?_
      refine lv_bipush (v := 13) J.1 J.2.1 d_GU_timer_15 (by decide) ?_
      replace h := g_bd h
      obtain ⟨r_4, q_4, h⟩ := h
      have hq := ct_GU_kept l E a0 a1 a2 a3 g0 k0 H.size gsz gdp gst gsp vsz vmd vpc vba vbo vre vti vro vha vmem 13 r_4 q_4
      have hr := jrunV (p := p) (e := e) (below := below) (R := ({ frames := 2, cells := 0, slots := 0, locals := 42 })) (cells := 0) (slots := 0) (As := [.int 13]) (rest := []) J hJ hA hZ hP hD hS hq [0, 1, 2] rfl (by decide) gl_GU_75 gi_GU_kept gsel_GU_kept gini_GU gc_GU_kept hd_GU_kept ⟨rfl, rfl, Nat.le_of_ble_eq_true rfl, Nat.le_of_ble_eq_true rfl⟩ rfl rfl hl.1 rfl rfl (Nat.le_of_ble_eq_true rfl) d_GU_timer_17 ⟨Nat.zero_le _, Nat.zero_le _⟩
      clear hq
      refine jk_i hr hA hP hD hS [0, 1, 2] [] (WR := []) rfl rfl (by decide) (by decide) [0, 1, 2] (WF := [(g0, .inr (2, [.ref a0, .int gsz, .int gdp, .int gst, .int gsp])), (a0, .inr (0, [.ref a1, .ref a2, .ref a3, .ref k0, .int vsz, .int vmd, .int vpc, .int vba, .int vbo, .int vre, .int vti, .int vro, .int vha])), (a1, .inl (E.2.1 0, 1844, .inl vmem))]) rfl (by decide) ?_
      clear hP hD hS
      intro H locs hP hD hS
      clear hr
      refine lv_goto (tgt := 30) J.1 J.2.1 d_GU_timer_20 (by decide) ?_
      have h := Option.some.inj h
      rw [← h]
      exact jr_i J hS hP hD rfl d_GU_timer_30

theorem hd_GU_wordAt : y_GU_wordAt.cls ≠ "java/lang/invoke/MethodHandle" ∧ y_GU_wordAt.cls ≠ "java/lang/invoke/VarHandle" ∧ (parseMethodDescriptor y_GU_wordAt.desc).map (fun d => d.parameters.length) = some 1 := by decide +kernel
def f_GU_wordAt (gsz : Int32) (gst : Int32) (vmem : Nat → Int32) (p1 : Int32) : Option (Int32) := (if p1 < (0 : Int32) then (some (-1)) else (if p1 < gsz then (if ck (gst + p1) 1844 then (some (vmem (gst + p1).toNatClampNeg)) else none) else (some (-1))))
set_option maxHeartbeats 4000000 in
set_option maxRecDepth 100000 in
theorem ct_GU_wordAt (l : Launch) (E : jz_E) (a0 a1 a2 a3 g0 k0 : Nat) (sz : Nat) (gsz : Int32) (gdp : Int32) (gst : Int32) (gsp : Int32) (vsz : Int32) (vmd : Int32) (vpc : Int32) (vba : Int32) (vbo : Int32) (vre : Int32) (vti : Int32) (vro : Int32) (vha : Int32) (vmem : Nat → Int32) (p1 : Int32) (o_r : Int32)  (h : f_GU_wordAt gsz gst vmem p1 = some o_r) : CTi l E y_GU_wordAt c_GU_wordAt 2 (some .int) ({ frames := 0, cells := 0, slots := 0, locals := 0 }) [.ref g0, .int p1] [(g0, .inr (2, [.ref a0, .int gsz, .int gdp, .int gst, .int gsp])), (a0, .inr (0, [.ref a1, .ref a2, .ref a3, .ref k0, .int vsz, .int vmd, .int vpc, .int vba, .int vbo, .int vre, .int vti, .int vro, .int vha])), (a1, .inl (E.2.1 0, 1844, .inl vmem))] sz o_r [(g0, .inr (2, [.ref a0, .int gsz, .int gdp, .int gst, .int gsp])), (a0, .inr (0, [.ref a1, .ref a2, .ref a3, .ref k0, .int vsz, .int vmd, .int vpc, .int vba, .int vbo, .int vre, .int vti, .int vro, .int vha])), (a1, .inl (E.2.1 0, 1844, .inl vmem))] := by
  refine jw (by decide +kernel) (Nat.le_of_ble_eq_true rfl) ?_
  intro p e s m below meth c A ls J hJ hAe hsz hA hZ hP hD hl
  rw [← hAe]
  have hS : va_S A s.heap s.heap [] := va_S.rf
  have hl : lv_has ls 2 [(0, .ref g0), (1, .int p1)] := hl
  unfold f_GU_wordAt at h
  refine lv_iload_n J.1 J.2.1 d_GU_wordAt_0 rfl (lv_at hl 1 rfl) ?_
  refine lv_if_lt (tgt := 12) J.1 J.2.1 d_GU_wordAt_1 (by decide) (fun c_1 => ?_) (fun c_1 => ?_)
  · replace h := g_t c_1 h
    refine lv_iconst (v := (-1)) J.1 J.2.1 d_GU_wordAt_12 (by decide) ?_
    refine lv_goto (tgt := 30) J.1 J.2.1 d_GU_wordAt_13 (by decide) ?_
    have h := Option.some.inj h
    rw [← h]
    exact jr_i J hS hP hD rfl d_GU_wordAt_30
  · replace h := g_f c_1 h
    refine lv_iload_n J.1 J.2.1 d_GU_wordAt_4 rfl (lv_at hl 1 rfl) ?_
    refine lv_aload_n J.1 J.2.1 d_GU_wordAt_5 rfl (lv_at hl 0 rfl) ?_
    refine jg J hJ hP 0 rfl rfl i_GU 1 (by decide) gf_GU_22 rfl d_GU_wordAt_6 ?_
    refine lv_icmp_lt (tgt := 16) J.1 J.2.1 d_GU_wordAt_9 (by decide) (fun c_2 => ?_) (fun c_2 => ?_)
    · replace h := g_t c_2 h
      refine lv_aload_n J.1 J.2.1 d_GU_wordAt_16 rfl (lv_at hl 0 rfl) ?_
      refine jg J hJ hP 0 rfl rfl i_GU 0 (by decide) gf_GU_16 rfl d_GU_wordAt_17 ?_
      refine jgN J hJ hP 1 rfl rfl i_MA 0 (by decide) gn_GU_63 rfl d_GU_wordAt_20 ?_
      refine lv_aload_n J.1 J.2.1 d_GU_wordAt_23 rfl (lv_at hl 0 rfl) ?_
      refine jg J hJ hP 0 rfl rfl i_GU 3 (by decide) gf_GU_29 rfl d_GU_wordAt_24 ?_
      refine lv_iload_n J.1 J.2.1 d_GU_wordAt_27 rfl (lv_at hl 1 rfl) ?_
      refine lv_iadd J.1 J.2.1 d_GU_wordAt_28 ?_
      replace h := g_ck h
      obtain ⟨k_3, h⟩ := h
      refine jai J hJ hP 2 rfl k_3 d_GU_wordAt_29 ?_
      have h := Option.some.inj h
      rw [← h]
      exact jr_i J hS hP hD rfl d_GU_wordAt_30
    · replace h := g_f c_2 h
      refine lv_iconst (v := (-1)) J.1 J.2.1 d_GU_wordAt_12 (by decide) ?_
      refine lv_goto (tgt := 30) J.1 J.2.1 d_GU_wordAt_13 (by decide) ?_
      have h := Option.some.inj h
      rw [← h]
      exact jr_i J hS hP hD rfl d_GU_wordAt_30

theorem hd_GU_told : y_GU_told.cls ≠ "java/lang/invoke/MethodHandle" ∧ y_GU_told.cls ≠ "java/lang/invoke/VarHandle" ∧ (parseMethodDescriptor y_GU_told.desc).map (fun d => d.parameters.length) = some 1 := by decide +kernel
def f_GU_told (gsz : Int32) (gdp : Int32) (gst : Int32) (gsp : Int32) (vmd : Int32) (vpc : Int32) (vba : Int32) (vbo : Int32) (vti : Int32) (vro : Int32) (vha : Int32) (vmem : Nat → Int32) (vreg : Nat → Int32) (kwai : Int32) (ksnt : Int32) (p1 : Int32) : Option (Int32) := (if (p1) = 0 then ((f_GU_mode gdp gst vmd vmem).bind fun r_2 => (some r_2)) else (if (p1) = 1 then ((f_GU_pc gdp gst vpc vha vmem).bind fun r_4 => (some r_4)) else (if (p1) = 2 then (if gdp = (0 : Int32) then (some vba) else ((f_GU_kept gst vmem 11).bind fun r_7 => (some r_7))) else (if (p1) = 3 then (if gdp = (0 : Int32) then (some vbo) else ((f_GU_kept gst vmem 12).bind fun r_10 => (some r_10))) else (if (p1) = 4 then ((f_GU_timer gdp gst vmd vti vmem).bind fun r_12 => (some r_12)) else (if (p1) = 5 then (if vro = (0 : Int32) then (some 0) else (some 1)) else (if (p1) = 6 then (if vha = (0 : Int32) then (some 0) else (some 1)) else (if (p1) = 7 then (some gsp) else (if (p1) = 8 then (some ksnt) else (if (p1) = 9 then (some kwai) else (if (p1) = 10 then (some gsz) else (if (p1) = 11 then (some gdp) else ((f_MA_register vreg (p1 - 20)).bind fun r_22 => (some r_22))))))))))))))
set_option maxHeartbeats 4000000 in
set_option maxRecDepth 100000 in
theorem ct_GU_told (l : Launch) (E : jz_E) (a0 a1 a2 a3 g0 k0 k1 k2 : Nat) (sz : Nat) (gsz : Int32) (gdp : Int32) (gst : Int32) (gsp : Int32) (vsz : Int32) (vmd : Int32) (vpc : Int32) (vba : Int32) (vbo : Int32) (vre : Int32) (vti : Int32) (vro : Int32) (vha : Int32) (vmem : Nat → Int32) (vreg : Nat → Int32) (kold : Int32) (kwai : Int32) (ksnt : Int32) (p1 : Int32) (o_r : Int32)  (h : f_GU_told gsz gdp gst gsp vmd vpc vba vbo vti vro vha vmem vreg kwai ksnt p1 = some o_r) : CTi l E y_GU_told c_GU_told 2 (some .int) ({ frames := 3, cells := 0, slots := 0, locals := 62 }) [.ref g0, .int p1] [(g0, .inr (2, [.ref a0, .int gsz, .int gdp, .int gst, .int gsp])), (a0, .inr (0, [.ref a1, .ref a2, .ref a3, .ref k0, .int vsz, .int vmd, .int vpc, .int vba, .int vbo, .int vre, .int vti, .int vro, .int vha])), (a1, .inl (E.2.1 0, 1844, .inl vmem)), (a2, .inl (E.2.1 0, 8, .inl vreg)), (k0, .inr (1, [.ref k1, .ref k2, .int kold, .int kwai, .int ksnt]))] sz o_r [(g0, .inr (2, [.ref a0, .int gsz, .int gdp, .int gst, .int gsp])), (a0, .inr (0, [.ref a1, .ref a2, .ref a3, .ref k0, .int vsz, .int vmd, .int vpc, .int vba, .int vbo, .int vre, .int vti, .int vro, .int vha])), (a1, .inl (E.2.1 0, 1844, .inl vmem)), (a2, .inl (E.2.1 0, 8, .inl vreg)), (k0, .inr (1, [.ref k1, .ref k2, .int kold, .int kwai, .int ksnt]))] := by
  refine jw (by decide +kernel) (Nat.le_of_ble_eq_true rfl) ?_
  intro p e s m below meth c A ls J hJ hAe hsz hA hZ hP hD hl
  rw [← hAe]
  have hS : va_S A s.heap s.heap [] := va_S.rf
  have hl : lv_has ls 2 [(0, .ref g0), (1, .int p1)] := hl
  unfold f_GU_told at h
  refine lv_iload_n J.1 J.2.1 d_GU_told_0 rfl (lv_at hl 1 rfl) ?_
  by_cases c_1 : (p1) = 0
  · replace h := g_t c_1 h
    refine lv_tableIn (off := 63) (tgt := 64) J.1 J.2.1 d_GU_told_1 (by rw [c_1]; decide) (by rw [c_1]; decide) (by rw [c_1]; rfl) (by decide) ?_
    refine lv_aload_n J.1 J.2.1 d_GU_told_64 rfl (lv_at hl 0 rfl) ?_
    replace h := g_bd h
    obtain ⟨r_2, q_2, h⟩ := h
    have hq := ct_GU_mode l E a0 a1 a2 a3 g0 k0 s.heap.size gsz gdp gst gsp vsz vmd vpc vba vbo vre vti vro vha vmem r_2 q_2
    have hr := jrunV (p := p) (e := e) (below := below) (R := ({ frames := 3, cells := 0, slots := 0, locals := 62 })) (cells := 0) (slots := 0) (As := []) (rest := []) J hJ hA hZ hP hD hS hq [0, 1, 2] rfl (by decide) gl_GU_66 gi_GU_mode gsel_GU_mode gini_GU gc_GU_mode hd_GU_mode ⟨rfl, rfl, Nat.le_of_ble_eq_true rfl, Nat.le_of_ble_eq_true rfl⟩ rfl rfl hl.1 rfl rfl (Nat.le_of_ble_eq_true rfl) d_GU_told_65 ⟨Nat.zero_le _, Nat.zero_le _⟩
    clear hq
    refine jk_i hr hA hP hD hS [0, 1, 2] [3, 4] (WR := [(a2, .inl (E.2.1 0, 8, .inl vreg)), (k0, .inr (1, [.ref k1, .ref k2, .int kold, .int kwai, .int ksnt]))]) rfl rfl (by decide) (by decide) [2, 3, 4, 0, 1] (WF := [(g0, .inr (2, [.ref a0, .int gsz, .int gdp, .int gst, .int gsp])), (a0, .inr (0, [.ref a1, .ref a2, .ref a3, .ref k0, .int vsz, .int vmd, .int vpc, .int vba, .int vbo, .int vre, .int vti, .int vro, .int vha])), (a1, .inl (E.2.1 0, 1844, .inl vmem)), (a2, .inl (E.2.1 0, 8, .inl vreg)), (k0, .inr (1, [.ref k1, .ref k2, .int kold, .int kwai, .int ksnt]))]) rfl (by decide) ?_
    clear hP hD hS
    intro H locs hP hD hS
    clear hr
    have h := Option.some.inj h
    rw [← h]
    exact jr_i J hS hP hD rfl d_GU_told_68
  replace h := g_f c_1 h
  by_cases c_3 : (p1) = 1
  · replace h := g_t c_3 h
    refine lv_tableIn (off := 68) (tgt := 69) J.1 J.2.1 d_GU_told_1 (by rw [c_3]; decide) (by rw [c_3]; decide) (by rw [c_3]; rfl) (by decide) ?_
    refine lv_aload_n J.1 J.2.1 d_GU_told_69 rfl (lv_at hl 0 rfl) ?_
    replace h := g_bd h
    obtain ⟨r_4, q_4, h⟩ := h
    have hq := ct_GU_pc l E a0 a1 a2 a3 g0 k0 s.heap.size gsz gdp gst gsp vsz vmd vpc vba vbo vre vti vro vha vmem r_4 q_4
    have hr := jrunV (p := p) (e := e) (below := below) (R := ({ frames := 3, cells := 0, slots := 0, locals := 62 })) (cells := 0) (slots := 0) (As := []) (rest := []) J hJ hA hZ hP hD hS hq [0, 1, 2] rfl (by decide) gl_GU_69 gi_GU_pc gsel_GU_pc gini_GU gc_GU_pc hd_GU_pc ⟨rfl, rfl, Nat.le_of_ble_eq_true rfl, Nat.le_of_ble_eq_true rfl⟩ rfl rfl hl.1 rfl rfl (Nat.le_of_ble_eq_true rfl) d_GU_told_70 ⟨Nat.zero_le _, Nat.zero_le _⟩
    clear hq
    refine jk_i hr hA hP hD hS [0, 1, 2] [3, 4] (WR := [(a2, .inl (E.2.1 0, 8, .inl vreg)), (k0, .inr (1, [.ref k1, .ref k2, .int kold, .int kwai, .int ksnt]))]) rfl rfl (by decide) (by decide) [2, 3, 4, 0, 1] (WF := [(g0, .inr (2, [.ref a0, .int gsz, .int gdp, .int gst, .int gsp])), (a0, .inr (0, [.ref a1, .ref a2, .ref a3, .ref k0, .int vsz, .int vmd, .int vpc, .int vba, .int vbo, .int vre, .int vti, .int vro, .int vha])), (a1, .inl (E.2.1 0, 1844, .inl vmem)), (a2, .inl (E.2.1 0, 8, .inl vreg)), (k0, .inr (1, [.ref k1, .ref k2, .int kold, .int kwai, .int ksnt]))]) rfl (by decide) ?_
    clear hP hD hS
    intro H locs hP hD hS
    clear hr
    have h := Option.some.inj h
    rw [← h]
    exact jr_i J hS hP hD rfl d_GU_told_73
  replace h := g_f c_3 h
  by_cases c_5 : (p1) = 2
  · replace h := g_t c_5 h
    refine lv_tableIn (off := 73) (tgt := 74) J.1 J.2.1 d_GU_told_1 (by rw [c_5]; decide) (by rw [c_5]; decide) (by rw [c_5]; rfl) (by decide) ?_
    refine lv_aload_n J.1 J.2.1 d_GU_told_74 rfl (lv_at hl 0 rfl) ?_
    refine jg J hJ hP 0 rfl rfl i_GU 2 (by decide) gf_GU_26 rfl d_GU_told_75 ?_
    refine lv_if_ne (tgt := 91) J.1 J.2.1 d_GU_told_78 (by decide) (fun c_6 => ?_) (fun c_6 => ?_)
    · replace h := g_f c_6 h
      refine lv_aload_n J.1 J.2.1 d_GU_told_91 rfl (lv_at hl 0 rfl) ?_
      refine lv_bipush (v := 11) J.1 J.2.1 d_GU_told_92 (by decide) ?_
      replace h := g_bd h
      obtain ⟨r_7, q_7, h⟩ := h
      have hq := ct_GU_kept l E a0 a1 a2 a3 g0 k0 s.heap.size gsz gdp gst gsp vsz vmd vpc vba vbo vre vti vro vha vmem 11 r_7 q_7
      have hr := jrunV (p := p) (e := e) (below := below) (R := ({ frames := 3, cells := 0, slots := 0, locals := 62 })) (cells := 0) (slots := 0) (As := [.int 11]) (rest := []) J hJ hA hZ hP hD hS hq [0, 1, 2] rfl (by decide) gl_GU_75 gi_GU_kept gsel_GU_kept gini_GU gc_GU_kept hd_GU_kept ⟨rfl, rfl, Nat.le_of_ble_eq_true rfl, Nat.le_of_ble_eq_true rfl⟩ rfl rfl hl.1 rfl rfl (Nat.le_of_ble_eq_true rfl) d_GU_told_94 ⟨Nat.zero_le _, Nat.zero_le _⟩
      clear hq
      refine jk_i hr hA hP hD hS [0, 1, 2] [3, 4] (WR := [(a2, .inl (E.2.1 0, 8, .inl vreg)), (k0, .inr (1, [.ref k1, .ref k2, .int kold, .int kwai, .int ksnt]))]) rfl rfl (by decide) (by decide) [2, 3, 4, 0, 1] (WF := [(g0, .inr (2, [.ref a0, .int gsz, .int gdp, .int gst, .int gsp])), (a0, .inr (0, [.ref a1, .ref a2, .ref a3, .ref k0, .int vsz, .int vmd, .int vpc, .int vba, .int vbo, .int vre, .int vti, .int vro, .int vha])), (a1, .inl (E.2.1 0, 1844, .inl vmem)), (a2, .inl (E.2.1 0, 8, .inl vreg)), (k0, .inr (1, [.ref k1, .ref k2, .int kold, .int kwai, .int ksnt]))]) rfl (by decide) ?_
      clear hP hD hS
      intro H locs hP hD hS
      clear hr
      have h := Option.some.inj h
      rw [← h]
      exact jr_i J hS hP hD rfl d_GU_told_97
    · replace h := g_t c_6 h
      refine lv_aload_n J.1 J.2.1 d_GU_told_81 rfl (lv_at hl 0 rfl) ?_
      refine jg J hJ hP 0 rfl rfl i_GU 0 (by decide) gf_GU_16 rfl d_GU_told_82 ?_
      refine jgN J hJ hP 1 rfl rfl i_MA 7 (by decide) gn_GU_72 rfl d_GU_told_85 ?_
      refine lv_goto (tgt := 97) J.1 J.2.1 d_GU_told_88 (by decide) ?_
      have h := Option.some.inj h
      rw [← h]
      exact jr_i J hS hP hD rfl d_GU_told_97
  replace h := g_f c_5 h
  by_cases c_8 : (p1) = 3
  · replace h := g_t c_8 h
    refine lv_tableIn (off := 97) (tgt := 98) J.1 J.2.1 d_GU_told_1 (by rw [c_8]; decide) (by rw [c_8]; decide) (by rw [c_8]; rfl) (by decide) ?_
    refine lv_aload_n J.1 J.2.1 d_GU_told_98 rfl (lv_at hl 0 rfl) ?_
    refine jg J hJ hP 0 rfl rfl i_GU 2 (by decide) gf_GU_26 rfl d_GU_told_99 ?_
    refine lv_if_ne (tgt := 115) J.1 J.2.1 d_GU_told_102 (by decide) (fun c_9 => ?_) (fun c_9 => ?_)
    · replace h := g_f c_9 h
      refine lv_aload_n J.1 J.2.1 d_GU_told_115 rfl (lv_at hl 0 rfl) ?_
      refine lv_bipush (v := 12) J.1 J.2.1 d_GU_told_116 (by decide) ?_
      replace h := g_bd h
      obtain ⟨r_10, q_10, h⟩ := h
      have hq := ct_GU_kept l E a0 a1 a2 a3 g0 k0 s.heap.size gsz gdp gst gsp vsz vmd vpc vba vbo vre vti vro vha vmem 12 r_10 q_10
      have hr := jrunV (p := p) (e := e) (below := below) (R := ({ frames := 3, cells := 0, slots := 0, locals := 62 })) (cells := 0) (slots := 0) (As := [.int 12]) (rest := []) J hJ hA hZ hP hD hS hq [0, 1, 2] rfl (by decide) gl_GU_75 gi_GU_kept gsel_GU_kept gini_GU gc_GU_kept hd_GU_kept ⟨rfl, rfl, Nat.le_of_ble_eq_true rfl, Nat.le_of_ble_eq_true rfl⟩ rfl rfl hl.1 rfl rfl (Nat.le_of_ble_eq_true rfl) d_GU_told_118 ⟨Nat.zero_le _, Nat.zero_le _⟩
      clear hq
      refine jk_i hr hA hP hD hS [0, 1, 2] [3, 4] (WR := [(a2, .inl (E.2.1 0, 8, .inl vreg)), (k0, .inr (1, [.ref k1, .ref k2, .int kold, .int kwai, .int ksnt]))]) rfl rfl (by decide) (by decide) [2, 3, 4, 0, 1] (WF := [(g0, .inr (2, [.ref a0, .int gsz, .int gdp, .int gst, .int gsp])), (a0, .inr (0, [.ref a1, .ref a2, .ref a3, .ref k0, .int vsz, .int vmd, .int vpc, .int vba, .int vbo, .int vre, .int vti, .int vro, .int vha])), (a1, .inl (E.2.1 0, 1844, .inl vmem)), (a2, .inl (E.2.1 0, 8, .inl vreg)), (k0, .inr (1, [.ref k1, .ref k2, .int kold, .int kwai, .int ksnt]))]) rfl (by decide) ?_
      clear hP hD hS
      intro H locs hP hD hS
      clear hr
      have h := Option.some.inj h
      rw [← h]
      exact jr_i J hS hP hD rfl d_GU_told_121
    · replace h := g_t c_9 h
      refine lv_aload_n J.1 J.2.1 d_GU_told_105 rfl (lv_at hl 0 rfl) ?_
      refine jg J hJ hP 0 rfl rfl i_GU 0 (by decide) gf_GU_16 rfl d_GU_told_106 ?_
      refine jgN J hJ hP 1 rfl rfl i_MA 8 (by decide) gn_GU_79 rfl d_GU_told_109 ?_
      refine lv_goto (tgt := 121) J.1 J.2.1 d_GU_told_112 (by decide) ?_
      have h := Option.some.inj h
      rw [← h]
      exact jr_i J hS hP hD rfl d_GU_told_121
  replace h := g_f c_8 h
  by_cases c_11 : (p1) = 4
  · replace h := g_t c_11 h
    refine lv_tableIn (off := 121) (tgt := 122) J.1 J.2.1 d_GU_told_1 (by rw [c_11]; decide) (by rw [c_11]; decide) (by rw [c_11]; rfl) (by decide) ?_
    refine lv_aload_n J.1 J.2.1 d_GU_told_122 rfl (lv_at hl 0 rfl) ?_
    replace h := g_bd h
    obtain ⟨r_12, q_12, h⟩ := h
    have hq := ct_GU_timer l E a0 a1 a2 a3 g0 k0 s.heap.size gsz gdp gst gsp vsz vmd vpc vba vbo vre vti vro vha vmem r_12 q_12
    have hr := jrunV (p := p) (e := e) (below := below) (R := ({ frames := 3, cells := 0, slots := 0, locals := 62 })) (cells := 0) (slots := 0) (As := []) (rest := []) J hJ hA hZ hP hD hS hq [0, 1, 2] rfl (by decide) gl_GU_82 gi_GU_timer gsel_GU_timer gini_GU gc_GU_timer hd_GU_timer ⟨rfl, rfl, Nat.le_of_ble_eq_true rfl, Nat.le_of_ble_eq_true rfl⟩ rfl rfl hl.1 rfl rfl (Nat.le_of_ble_eq_true rfl) d_GU_told_123 ⟨Nat.zero_le _, Nat.zero_le _⟩
    clear hq
    refine jk_i hr hA hP hD hS [0, 1, 2] [3, 4] (WR := [(a2, .inl (E.2.1 0, 8, .inl vreg)), (k0, .inr (1, [.ref k1, .ref k2, .int kold, .int kwai, .int ksnt]))]) rfl rfl (by decide) (by decide) [2, 3, 4, 0, 1] (WF := [(g0, .inr (2, [.ref a0, .int gsz, .int gdp, .int gst, .int gsp])), (a0, .inr (0, [.ref a1, .ref a2, .ref a3, .ref k0, .int vsz, .int vmd, .int vpc, .int vba, .int vbo, .int vre, .int vti, .int vro, .int vha])), (a1, .inl (E.2.1 0, 1844, .inl vmem)), (a2, .inl (E.2.1 0, 8, .inl vreg)), (k0, .inr (1, [.ref k1, .ref k2, .int kold, .int kwai, .int ksnt]))]) rfl (by decide) ?_
    clear hP hD hS
    intro H locs hP hD hS
    clear hr
    have h := Option.some.inj h
    rw [← h]
    exact jr_i J hS hP hD rfl d_GU_told_126
  replace h := g_f c_11 h
  by_cases c_13 : (p1) = 5
  · replace h := g_t c_13 h
    refine lv_tableIn (off := 126) (tgt := 127) J.1 J.2.1 d_GU_told_1 (by rw [c_13]; decide) (by rw [c_13]; decide) (by rw [c_13]; rfl) (by decide) ?_
    refine lv_aload_n J.1 J.2.1 d_GU_told_127 rfl (lv_at hl 0 rfl) ?_
    refine jg J hJ hP 0 rfl rfl i_GU 0 (by decide) gf_GU_16 rfl d_GU_told_128 ?_
    refine jgN J hJ hP 1 rfl rfl i_MA 11 (by decide) gn_GU_85 rfl d_GU_told_131 ?_
    refine lv_if_eq (tgt := 141) J.1 J.2.1 d_GU_told_134 (by decide) (fun c_14 => ?_) (fun c_14 => ?_)
    · replace h := g_t c_14 h
      refine lv_iconst (v := 0) J.1 J.2.1 d_GU_told_141 (by decide) ?_
      have h := Option.some.inj h
      rw [← h]
      exact jr_i J hS hP hD rfl d_GU_told_142
    · replace h := g_f c_14 h
      refine lv_iconst (v := 1) J.1 J.2.1 d_GU_told_137 (by decide) ?_
      refine lv_goto (tgt := 142) J.1 J.2.1 d_GU_told_138 (by decide) ?_
      have h := Option.some.inj h
      rw [← h]
      exact jr_i J hS hP hD rfl d_GU_told_142
  replace h := g_f c_13 h
  by_cases c_15 : (p1) = 6
  · replace h := g_t c_15 h
    refine lv_tableIn (off := 142) (tgt := 143) J.1 J.2.1 d_GU_told_1 (by rw [c_15]; decide) (by rw [c_15]; decide) (by rw [c_15]; rfl) (by decide) ?_
    refine lv_aload_n J.1 J.2.1 d_GU_told_143 rfl (lv_at hl 0 rfl) ?_
    refine jg J hJ hP 0 rfl rfl i_GU 0 (by decide) gf_GU_16 rfl d_GU_told_144 ?_
    refine jgN J hJ hP 1 rfl rfl i_MA 12 (by decide) gn_GU_49 rfl d_GU_told_147 ?_
    refine lv_if_eq (tgt := 157) J.1 J.2.1 d_GU_told_150 (by decide) (fun c_16 => ?_) (fun c_16 => ?_)
    · replace h := g_t c_16 h
      refine lv_iconst (v := 0) J.1 J.2.1 d_GU_told_157 (by decide) ?_
      have h := Option.some.inj h
      rw [← h]
      exact jr_i J hS hP hD rfl d_GU_told_158
    · replace h := g_f c_16 h
      refine lv_iconst (v := 1) J.1 J.2.1 d_GU_told_153 (by decide) ?_
      refine lv_goto (tgt := 158) J.1 J.2.1 d_GU_told_154 (by decide) ?_
      have h := Option.some.inj h
      rw [← h]
      exact jr_i J hS hP hD rfl d_GU_told_158
  replace h := g_f c_15 h
  by_cases c_17 : (p1) = 7
  · replace h := g_t c_17 h
    refine lv_tableIn (off := 158) (tgt := 159) J.1 J.2.1 d_GU_told_1 (by rw [c_17]; decide) (by rw [c_17]; decide) (by rw [c_17]; rfl) (by decide) ?_
    refine lv_aload_n J.1 J.2.1 d_GU_told_159 rfl (lv_at hl 0 rfl) ?_
    refine jg J hJ hP 0 rfl rfl i_GU 4 (by decide) gf_GU_32 rfl d_GU_told_160 ?_
    have h := Option.some.inj h
    rw [← h]
    exact jr_i J hS hP hD rfl d_GU_told_163
  replace h := g_f c_17 h
  by_cases c_18 : (p1) = 8
  · replace h := g_t c_18 h
    refine lv_tableIn (off := 163) (tgt := 164) J.1 J.2.1 d_GU_told_1 (by rw [c_18]; decide) (by rw [c_18]; decide) (by rw [c_18]; rfl) (by decide) ?_
    refine lv_aload_n J.1 J.2.1 d_GU_told_164 rfl (lv_at hl 0 rfl) ?_
    refine jg J hJ hP 0 rfl rfl i_GU 0 (by decide) gf_GU_16 rfl d_GU_told_165 ?_
    refine jgN J hJ hP 1 rfl rfl i_MA 3 (by decide) gn_GU_88 rfl d_GU_told_168 ?_
    refine jgN J hJ hP 4 rfl rfl i_CO 4 (by decide) gn_GU_92 rfl d_GU_told_171 ?_
    have h := Option.some.inj h
    rw [← h]
    exact jr_i J hS hP hD rfl d_GU_told_174
  replace h := g_f c_18 h
  by_cases c_19 : (p1) = 9
  · replace h := g_t c_19 h
    refine lv_tableIn (off := 174) (tgt := 175) J.1 J.2.1 d_GU_told_1 (by rw [c_19]; decide) (by rw [c_19]; decide) (by rw [c_19]; rfl) (by decide) ?_
    refine lv_aload_n J.1 J.2.1 d_GU_told_175 rfl (lv_at hl 0 rfl) ?_
    refine jg J hJ hP 0 rfl rfl i_GU 0 (by decide) gf_GU_16 rfl d_GU_told_176 ?_
    refine jgN J hJ hP 1 rfl rfl i_MA 3 (by decide) gn_GU_88 rfl d_GU_told_179 ?_
    refine jgN J hJ hP 4 rfl rfl i_CO 3 (by decide) gn_GU_97 rfl d_GU_told_182 ?_
    have h := Option.some.inj h
    rw [← h]
    exact jr_i J hS hP hD rfl d_GU_told_185
  replace h := g_f c_19 h
  by_cases c_20 : (p1) = 10
  · replace h := g_t c_20 h
    refine lv_tableIn (off := 185) (tgt := 186) J.1 J.2.1 d_GU_told_1 (by rw [c_20]; decide) (by rw [c_20]; decide) (by rw [c_20]; rfl) (by decide) ?_
    refine lv_aload_n J.1 J.2.1 d_GU_told_186 rfl (lv_at hl 0 rfl) ?_
    refine jg J hJ hP 0 rfl rfl i_GU 1 (by decide) gf_GU_22 rfl d_GU_told_187 ?_
    have h := Option.some.inj h
    rw [← h]
    exact jr_i J hS hP hD rfl d_GU_told_190
  replace h := g_f c_20 h
  by_cases c_21 : (p1) = 11
  · replace h := g_t c_21 h
    refine lv_tableIn (off := 190) (tgt := 191) J.1 J.2.1 d_GU_told_1 (by rw [c_21]; decide) (by rw [c_21]; decide) (by rw [c_21]; rfl) (by decide) ?_
    refine lv_aload_n J.1 J.2.1 d_GU_told_191 rfl (lv_at hl 0 rfl) ?_
    refine jg J hJ hP 0 rfl rfl i_GU 2 (by decide) gf_GU_26 rfl d_GU_told_192 ?_
    have h := Option.some.inj h
    rw [← h]
    exact jr_i J hS hP hD rfl d_GU_told_195
  replace h := g_f c_21 h
  refine lv_tableOut (tgt := 196) J.1 J.2.1 d_GU_told_1 (by have e0 := lv_neT c_1 (a := 0) (by decide); have e1 := lv_neT c_3 (a := 1) (by decide); have e2 := lv_neT c_5 (a := 2) (by decide); have e3 := lv_neT c_8 (a := 3) (by decide); have e4 := lv_neT c_11 (a := 4) (by decide); have e5 := lv_neT c_13 (a := 5) (by decide); have e6 := lv_neT c_15 (a := 6) (by decide); have e7 := lv_neT c_17 (a := 7) (by decide); have e8 := lv_neT c_18 (a := 8) (by decide); have e9 := lv_neT c_19 (a := 9) (by decide); have e10 := lv_neT c_20 (a := 10) (by decide); have e11 := lv_neT c_21 (a := 11) (by decide); omega) (by decide) ?_
  refine lv_aload_n J.1 J.2.1 d_GU_told_196 rfl (lv_at hl 0 rfl) ?_
  refine jg J hJ hP 0 rfl rfl i_GU 0 (by decide) gf_GU_16 rfl d_GU_told_197 ?_
  refine lv_iload_n J.1 J.2.1 d_GU_told_200 rfl (lv_at hl 1 rfl) ?_
  refine lv_bipush (v := 20) J.1 J.2.1 d_GU_told_201 (by decide) ?_
  refine lv_isub J.1 J.2.1 d_GU_told_203 ?_
  replace h := g_bd h
  obtain ⟨r_22, q_22, h⟩ := h
  have hq := ct_MA_register l E a0 a1 a2 a3 k0 s.heap.size vsz vmd vpc vba vbo vre vti vro vha vreg (p1 - 20) r_22 q_22
  have hr := jrunV (p := p) (e := e) (below := below) (R := ({ frames := 3, cells := 0, slots := 0, locals := 62 })) (cells := 0) (slots := 0) (As := [.int (p1 - 20)]) (rest := []) J hJ hA hZ hP hD hS hq [1, 3] rfl (by decide) gl_GU_100 gi_MA_register gsel_MA_register gini_MA gc_MA_register hd_MA_register ⟨rfl, rfl, Nat.le_of_ble_eq_true rfl, Nat.le_of_ble_eq_true rfl⟩ rfl rfl hl.1 rfl rfl (Nat.le_of_ble_eq_true rfl) d_GU_told_204 ⟨Nat.zero_le _, Nat.zero_le _⟩
  clear hq
  refine jk_i hr hA hP hD hS [1, 3] [0, 2, 4] (WR := [(g0, .inr (2, [.ref a0, .int gsz, .int gdp, .int gst, .int gsp])), (a1, .inl (E.2.1 0, 1844, .inl vmem)), (k0, .inr (1, [.ref k1, .ref k2, .int kold, .int kwai, .int ksnt]))]) rfl rfl (by decide) (by decide) [0, 3, 1, 4, 2] (WF := [(g0, .inr (2, [.ref a0, .int gsz, .int gdp, .int gst, .int gsp])), (a0, .inr (0, [.ref a1, .ref a2, .ref a3, .ref k0, .int vsz, .int vmd, .int vpc, .int vba, .int vbo, .int vre, .int vti, .int vro, .int vha])), (a1, .inl (E.2.1 0, 1844, .inl vmem)), (a2, .inl (E.2.1 0, 8, .inl vreg)), (k0, .inr (1, [.ref k1, .ref k2, .int kold, .int kwai, .int ksnt]))]) rfl (by decide) ?_
  clear hP hD hS
  intro H locs hP hD hS
  clear hr
  have h := Option.some.inj h
  rw [← h]
  exact jr_i J hS hP hD rfl d_GU_told_207

theorem hd_GU_begin : y_GU_begin.cls ≠ "java/lang/invoke/MethodHandle" ∧ y_GU_begin.cls ≠ "java/lang/invoke/VarHandle" ∧ (parseMethodDescriptor y_GU_begin.desc).map (fun d => d.parameters.length) = some 4 := by decide +kernel
def b_GU_begin_42 : Nat → (Nat → Int32) → Int32 → Int32 → Int32 → Int32 → Int32 → Int32 → Int32 → Int32 → Int32 → Int32 → Int32 → Int32 → Int32 → (Nat → Int32) → (Nat → Int32) → (Nat → Int32) → Int32 → Int32 → Int32 → (Nat → Int32) → (Nat → Int32) → (Nat → Int32) → Int32 → Int32 → Int32 → Option (Int32 × Int32 × Int32 × Int32 × Int32 × Int32 × Int32 × Int32 × Int32 × Int32 × Int32 × Int32 × Int32 × (Nat → Int32) × (Nat → Int32) × (Nat → Int32) × Int32 × Int32 × Int32 × (Nat → Int32))
  | 0, _, _, _, _, _, _, _, _, _, _, _, _, _, _, _, _, _, _, _, _, _, _, _, _, _, _ => none
  | n + 1, wW, gsz, gdp, gst, gsp, vsz, vmd, vpc, vba, vbo, vre, vti, vro, vha, vmem, vreg, vblk, kold, kwai, ksnt, ktyp, ksen, uf, x2, x4, x5 => (if x4 ≤ x5 then ((f_MA_copyIn 1024 vsz vmem uf x2 gst).bind fun vmem_2 => ((f_GU_awaitTurn gdp vsz vmd vpc vba vbo vre vti vro vha vmem_2 vreg vblk kold kwai ksnt ktyp ksen).bind fun (vmd_3, vpc_3, vba_3, vbo_3, vre_3, vti_3, vro_3, vha_3, vmem_3, vreg_3, vblk_3, kold_3, kwai_3, ksnt_3, ksen_3) => (some (gsz, gdp, gst, gsp, vsz, vmd_3, vpc_3, vba_3, vbo_3, vre_3, vti_3, vro_3, vha_3, vmem_3, vreg_3, vblk_3, kold_3, kwai_3, ksnt_3, ksen_3)))) else ((f_MA_copyIns wW vsz vmem 410 (x5 * 410)).bind fun vmem_4 => b_GU_begin_42 n wW gsz gdp gst gsp vsz vmd vpc vba vbo vre vti vro vha vmem_4 vreg vblk kold kwai ksnt ktyp ksen uf x2 x4 (x5 + 1)))
def f_GU_begin (wW : Nat → Int32) (vmem : Nat → Int32) (vreg : Nat → Int32) (vblk : Nat → Int32) (ktyp : Nat → Int32) (ksen : Nat → Int32) (uf : Nat → Int32) (p2 : Int32) (p3 : Int32) (p4 : Int32) : Option (Int32 × Int32 × Int32 × Int32 × Int32 × Int32 × Int32 × Int32 × Int32 × Int32 × Int32 × Int32 × Int32 × (Nat → Int32) × (Nat → Int32) × (Nat → Int32) × Int32 × Int32 × Int32 × (Nat → Int32)) := ((f_MA_clear vmem vreg vblk ((p4 * 410) + p3)).bind fun (vsz_5, vmd_5, vpc_5, vba_5, vbo_5, vre_5, vti_5, vro_5, vha_5, vmem_5, vreg_5, vblk_5, kold_5, kwai_5, ksnt_5) => b_GU_begin_42 65536 wW p3 p4 (p4 * 410) 0 vsz_5 vmd_5 vpc_5 vba_5 vbo_5 vre_5 vti_5 vro_5 vha_5 vmem_5 vreg_5 vblk_5 kold_5 kwai_5 ksnt_5 ktyp ksen uf p2 p4 0)
set_option maxHeartbeats 4000000 in
set_option maxRecDepth 100000 in
theorem kb_GU_begin_42 {p : Program} {l : Launch} {e : Env} {s : State} {m : MethodId} {below : List Frame} {meth : Method} {c : Code} {A : Nat → Prop} {E : jz_E} {a0 a1 a2 a3 g0 k0 k1 k2 u0 w9 : Nat} {wW : Nat → Int32} {p2 : Int32} {p3 : Int32} {p4 : Int32} {o_gsz : Int32} {o_gdp : Int32} {o_gst : Int32} {o_gsp : Int32} {o_vsz : Int32} {o_vmd : Int32} {o_vpc : Int32} {o_vba : Int32} {o_vbo : Int32} {o_vre : Int32} {o_vti : Int32} {o_vro : Int32} {o_vha : Int32} {o_vmem : Nat → Int32} {o_vreg : Nat → Int32} {o_vblk : Nat → Int32} {o_kold : Int32} {o_kwai : Int32} {o_ksnt : Int32} {o_ksen : Nat → Int32} (J : JC p s m ([.ref g0, .ref u0, .int p2, .int p3, .int p4] : List Value).toArray meth c c_GU_begin 6 none y_GU_begin.cls) (hJ : jE E s) (hA : ∀ q : Nat, s.heap.size ≤ q → A q) (hZ : jz_ok E A s s.heap) (hzW : (R_MO, "WORDS", "[I", Value.ref w9) ∈ E.2.2.1) (htW : (w9, 410, wW) ∈ E.2.2.2.1) : ∀ (n : Nat) (gsz : Int32) (gdp : Int32) (gst : Int32) (gsp : Int32) (vsz : Int32) (vmd : Int32) (vpc : Int32) (vba : Int32) (vbo : Int32) (vre : Int32) (vti : Int32) (vro : Int32) (vha : Int32) (vmem : Nat → Int32) (vreg : Nat → Int32) (vblk : Nat → Int32) (kold : Int32) (kwai : Int32) (ksnt : Int32) (ktyp : Nat → Int32) (ksen : Nat → Int32) (uf : Nat → Int32) (x2 : Int32) (x4 : Int32) (x5 : Int32) (H : Heap) (locs : List Loc) (ls : Array Slot), b_GU_begin_42 n wW gsz gdp gst gsp vsz vmd vpc vba vbo vre vti vro vha vmem vreg vblk kold kwai ksnt ktyp ksen uf x2 x4 x5 = some (o_gsz, o_gdp, o_gst, o_gsp, o_vsz, o_vmd, o_vpc, o_vba, o_vbo, o_vre, o_vti, o_vro, o_vha, o_vmem, o_vreg, o_vblk, o_kold, o_kwai, o_ksnt, o_ksen) → va_P E.1 classes [(g0, .inr (2, [.ref a0, .int gsz, .int gdp, .int gst, .int gsp])), (a0, .inr (0, [.ref a1, .ref a2, .ref a3, .ref k0, .int vsz, .int vmd, .int vpc, .int vba, .int vbo, .int vre, .int vti, .int vro, .int vha])), (a1, .inl (E.2.1 0, 1844, .inl vmem)), (a2, .inl (E.2.1 0, 8, .inl vreg)), (a3, .inl (E.2.1 0, 128, .inl vblk)), (k0, .inr (1, [.ref k1, .ref k2, .int kold, .int kwai, .int ksnt])), (k1, .inl (E.2.1 0, 100, .inl ktyp)), (k2, .inl (E.2.1 0, 500, .inl ksen)), (u0, .inl (E.2.1 0, 1024, .inl uf))] H → va_D A [(g0, .inr (2, [.ref a0, .int gsz, .int gdp, .int gst, .int gsp])), (a0, .inr (0, [.ref a1, .ref a2, .ref a3, .ref k0, .int vsz, .int vmd, .int vpc, .int vba, .int vbo, .int vre, .int vti, .int vro, .int vha])), (a1, .inl (E.2.1 0, 1844, .inl vmem)), (a2, .inl (E.2.1 0, 8, .inl vreg)), (a3, .inl (E.2.1 0, 128, .inl vblk)), (k0, .inr (1, [.ref k1, .ref k2, .int kold, .int kwai, .int ksnt])), (k1, .inl (E.2.1 0, 100, .inl ktyp)), (k2, .inl (E.2.1 0, 500, .inl ksen)), (u0, .inl (E.2.1 0, 1024, .inl uf))] → va_S A s.heap H locs → lv_has ls 6 [(0, .ref g0), (1, .ref u0), (2, .int x2), (4, .int x4), (5, .int x5)] → W p l e ({ frames := 5, cells := 0, slots := 0, locals := 175 }) s m ([.ref g0, .ref u0, .int p2, .int p3, .int p4] : List Value).toArray below meth c H locs 0 0 (MQ below (va_Qv (fun (u : va_W) => u = [(g0, .inr (2, [.ref a0, .int o_gsz, .int o_gdp, .int o_gst, .int o_gsp])), (a0, .inr (0, [.ref a1, .ref a2, .ref a3, .ref k0, .int o_vsz, .int o_vmd, .int o_vpc, .int o_vba, .int o_vbo, .int o_vre, .int o_vti, .int o_vro, .int o_vha])), (a1, .inl (E.2.1 0, 1844, .inl o_vmem)), (a2, .inl (E.2.1 0, 8, .inl o_vreg)), (a3, .inl (E.2.1 0, 128, .inl o_vblk)), (k0, .inr (1, [.ref k1, .ref k2, .int o_kold, .int o_kwai, .int o_ksnt])), (k1, .inl (E.2.1 0, 100, .inl ktyp)), (k2, .inl (E.2.1 0, 500, .inl o_ksen)), (u0, .inl (E.2.1 0, 1024, .inl uf))]) (BW E A) A) ([.ref g0, .ref u0, .int p2, .int p3, .int p4] : List Value).toArray s 0 0 A) (F0 m 42 ls []) := by
  intro n
  induction n with
  | zero => intro gsz gdp gst gsp vsz vmd vpc vba vbo vre vti vro vha vmem vreg vblk kold kwai ksnt ktyp ksen uf x2 x4 x5 H locs ls h; cases h
  | succ n ih =>
    intro gsz gdp gst gsp vsz vmd vpc vba vbo vre vti vro vha vmem vreg vblk kold kwai ksnt ktyp ksen uf x2 x4 x5 H locs ls h hP hD hS hl
    rw [b_GU_begin_42] at h
    refine lv_iload J.1 J.2.1 d_GU_begin_42 (lv_at hl 4 rfl) ?_
    refine lv_iload J.1 J.2.1 d_GU_begin_44 (lv_at hl 3 rfl) ?_
    refine lv_icmp_ge (tgt := 74) J.1 J.2.1 d_GU_begin_46 (by decide) (fun c_1 => ?_) (fun c_1 => ?_)
    · replace h := g_t c_1 h
      refine lv_aload_n J.1 J.2.1 d_GU_begin_74 rfl (lv_at hl 0 rfl) ?_
      refine jg J hJ hP 0 rfl rfl i_GU 0 (by decide) gf_GU_16 rfl d_GU_begin_75 ?_
      refine lv_aload_n J.1 J.2.1 d_GU_begin_78 rfl (lv_at hl 1 rfl) ?_
      refine lv_iload_n J.1 J.2.1 d_GU_begin_79 rfl (lv_at hl 2 rfl) ?_
      refine lv_aload_n J.1 J.2.1 d_GU_begin_80 rfl (lv_at hl 0 rfl) ?_
      refine jg J hJ hP 0 rfl rfl i_GU 3 (by decide) gf_GU_29 rfl d_GU_begin_81 ?_
      replace h := g_bd h
      obtain ⟨vmem_2, q_2, h⟩ := h
      have hq := ct_MA_copyIn l E a0 a1 a2 a3 k0 u0 H.size 1024 vsz vmd vpc vba vbo vre vti vro vha vmem uf x2 gst vmem_2 q_2
      have hr := jrunV (p := p) (e := e) (below := below) (R := ({ frames := 5, cells := 0, slots := 0, locals := 175 })) (cells := 0) (slots := 0) (As := [.ref u0, .int x2, .int gst]) (rest := []) J hJ hA hZ hP hD hS hq [1, 2, 8] rfl (by decide) gl_GU_42 gi_MA_copyIn gsel_MA_copyIn gini_MA gc_MA_copyIn hd_MA_copyIn ⟨rfl, rfl, Nat.le_of_ble_eq_true rfl, Nat.le_of_ble_eq_true rfl⟩ rfl rfl hl.1 rfl rfl (Nat.le_of_ble_eq_true rfl) d_GU_begin_84 ⟨Nat.zero_le _, Nat.zero_le _⟩
      clear hq
      refine jk_v hr hA hP hD hS [1, 2, 8] [0, 3, 4, 5, 6, 7] (WR := [(g0, .inr (2, [.ref a0, .int gsz, .int gdp, .int gst, .int gsp])), (a2, .inl (E.2.1 0, 8, .inl vreg)), (a3, .inl (E.2.1 0, 128, .inl vblk)), (k0, .inr (1, [.ref k1, .ref k2, .int kold, .int kwai, .int ksnt])), (k1, .inl (E.2.1 0, 100, .inl ktyp)), (k2, .inl (E.2.1 0, 500, .inl ksen))]) rfl rfl (by decide) (by decide) [0, 6, 7, 1, 2, 3, 4, 5, 8] (WF := [(g0, .inr (2, [.ref a0, .int gsz, .int gdp, .int gst, .int gsp])), (a0, .inr (0, [.ref a1, .ref a2, .ref a3, .ref k0, .int vsz, .int vmd, .int vpc, .int vba, .int vbo, .int vre, .int vti, .int vro, .int vha])), (a1, .inl (E.2.1 0, 1844, .inl vmem_2)), (a2, .inl (E.2.1 0, 8, .inl vreg)), (a3, .inl (E.2.1 0, 128, .inl vblk)), (k0, .inr (1, [.ref k1, .ref k2, .int kold, .int kwai, .int ksnt])), (k1, .inl (E.2.1 0, 100, .inl ktyp)), (k2, .inl (E.2.1 0, 500, .inl ksen)), (u0, .inl (E.2.1 0, 1024, .inl uf))]) rfl (by decide) ?_
      clear hP hD hS
      intro H locs hP hD hS
      clear hr
      refine lv_aload_n J.1 J.2.1 d_GU_begin_87 rfl (lv_at hl 0 rfl) ?_
      replace h := g_bd h
      obtain ⟨⟨vmd_3, vpc_3, vba_3, vbo_3, vre_3, vti_3, vro_3, vha_3, vmem_3, vreg_3, vblk_3, kold_3, kwai_3, ksnt_3, ksen_3⟩, q_3, h⟩ := h
      try dsimp only at h
      have hq := ct_GU_awaitTurn l E a0 a1 a2 a3 g0 k0 k1 k2 H.size gsz gdp gst gsp vsz vmd vpc vba vbo vre vti vro vha vmem_2 vreg vblk kold kwai ksnt ktyp ksen vmd_3 vpc_3 vba_3 vbo_3 vre_3 vti_3 vro_3 vha_3 vmem_3 vreg_3 vblk_3 kold_3 kwai_3 ksnt_3 ksen_3 q_3
      have hr := jrunV (p := p) (e := e) (below := below) (R := ({ frames := 5, cells := 0, slots := 0, locals := 175 })) (cells := 0) (slots := 0) (As := []) (rest := []) J hJ hA hZ hP hD hS hq [0, 1, 2, 3, 4, 5, 6, 7] rfl (by decide) gl_GU_46 gi_GU_awaitTurn gsel_GU_awaitTurn gini_GU gc_GU_awaitTurn hd_GU_awaitTurn ⟨rfl, rfl, Nat.le_of_ble_eq_true rfl, Nat.le_of_ble_eq_true rfl⟩ rfl rfl hl.1 rfl rfl (Nat.le_of_ble_eq_true rfl) d_GU_begin_88 ⟨Nat.zero_le _, Nat.zero_le _⟩
      clear hq
      refine jk_v hr hA hP hD hS [0, 1, 2, 3, 4, 5, 6, 7] [8] (WR := [(u0, .inl (E.2.1 0, 1024, .inl uf))]) rfl rfl (by decide) (by decide) [1, 2, 3, 4, 5, 6, 7, 8, 0] (WF := [(g0, .inr (2, [.ref a0, .int gsz, .int gdp, .int gst, .int gsp])), (a0, .inr (0, [.ref a1, .ref a2, .ref a3, .ref k0, .int vsz, .int vmd_3, .int vpc_3, .int vba_3, .int vbo_3, .int vre_3, .int vti_3, .int vro_3, .int vha_3])), (a1, .inl (E.2.1 0, 1844, .inl vmem_3)), (a2, .inl (E.2.1 0, 8, .inl vreg_3)), (a3, .inl (E.2.1 0, 128, .inl vblk_3)), (k0, .inr (1, [.ref k1, .ref k2, .int kold_3, .int kwai_3, .int ksnt_3])), (k1, .inl (E.2.1 0, 100, .inl ktyp)), (k2, .inl (E.2.1 0, 500, .inl ksen_3)), (u0, .inl (E.2.1 0, 1024, .inl uf))]) rfl (by decide) ?_
      clear hP hD hS
      intro H locs hP hD hS
      clear hr
      have h := Option.some.inj h
      have e_0 := (Prod.mk.inj h).1
      have h := (Prod.mk.inj h).2
      have e_1 := (Prod.mk.inj h).1
      have h := (Prod.mk.inj h).2
      have e_2 := (Prod.mk.inj h).1
      have h := (Prod.mk.inj h).2
      have e_3 := (Prod.mk.inj h).1
      have h := (Prod.mk.inj h).2
      have e_4 := (Prod.mk.inj h).1
      have h := (Prod.mk.inj h).2
      have e_5 := (Prod.mk.inj h).1
      have h := (Prod.mk.inj h).2
      have e_6 := (Prod.mk.inj h).1
      have h := (Prod.mk.inj h).2
      have e_7 := (Prod.mk.inj h).1
      have h := (Prod.mk.inj h).2
      have e_8 := (Prod.mk.inj h).1
      have h := (Prod.mk.inj h).2
      have e_9 := (Prod.mk.inj h).1
      have h := (Prod.mk.inj h).2
      have e_10 := (Prod.mk.inj h).1
      have h := (Prod.mk.inj h).2
      have e_11 := (Prod.mk.inj h).1
      have h := (Prod.mk.inj h).2
      have e_12 := (Prod.mk.inj h).1
      have h := (Prod.mk.inj h).2
      have e_13 := (Prod.mk.inj h).1
      have h := (Prod.mk.inj h).2
      have e_14 := (Prod.mk.inj h).1
      have h := (Prod.mk.inj h).2
      have e_15 := (Prod.mk.inj h).1
      have h := (Prod.mk.inj h).2
      have e_16 := (Prod.mk.inj h).1
      have h := (Prod.mk.inj h).2
      have e_17 := (Prod.mk.inj h).1
      have h := (Prod.mk.inj h).2
      have e_18 := (Prod.mk.inj h).1
      have h := (Prod.mk.inj h).2
      rw [← e_0, ← e_1, ← e_2, ← e_3, ← e_4, ← e_5, ← e_6, ← e_7, ← e_8, ← e_9, ← e_10, ← e_11, ← e_12, ← e_13, ← e_14, ← e_15, ← e_16, ← e_17, ← e_18, ← h]
      exact jr_v J hS hP hD d_GU_begin_91
    · replace h := g_f c_1 h
      refine lv_aload_n J.1 J.2.1 d_GU_begin_49 rfl (lv_at hl 0 rfl) ?_
      refine jg J hJ hP 0 rfl rfl i_GU 0 (by decide) gf_GU_16 rfl d_GU_begin_50 ?_
      refine va_getsN J.1 J.2.1 (hZ.1 _ hzW) hS J.2.2.2.2.1 (va_Nw.use (isFN_on (nw_fn _ gn_GU_38)) (hJ.2 _ gn_GU_38)) (fun _ h => h) d_GU_begin_53 ?_
      refine lv_sipush (v := 410) J.1 J.2.1 d_GU_begin_56 (by decide) ?_
      refine lv_iload J.1 J.2.1 d_GU_begin_59 (lv_at hl 4 rfl) ?_
      refine lv_sipush (v := 410) J.1 J.2.1 d_GU_begin_61 (by decide) ?_
      refine lv_imul J.1 J.2.1 d_GU_begin_64 ?_
      replace h := g_bd h
      obtain ⟨vmem_4, q_4, h⟩ := h
      have hq := ct_MA_copyIns l E a0 a1 a2 a3 k0 w9 H.size wW vsz vmd vpc vba vbo vre vti vro vha vmem 410 (x5 * 410) vmem_4 htW q_4
      have hr := jrunV (p := p) (e := e) (below := below) (R := ({ frames := 5, cells := 0, slots := 0, locals := 175 })) (cells := 0) (slots := 0) (As := [.ref w9, .int 410, .int (x5 * 410)]) (rest := []) J hJ hA hZ hP hD hS hq [1, 2] rfl (by decide) gl_GU_42 gi_MA_copyIn gsel_MA_copyIn gini_MA gc_MA_copyIn hd_MA_copyIn ⟨rfl, rfl, Nat.le_of_ble_eq_true rfl, Nat.le_of_ble_eq_true rfl⟩ rfl rfl hl.1 rfl rfl (Nat.le_of_ble_eq_true rfl) d_GU_begin_65 ⟨Nat.zero_le _, Nat.zero_le _⟩
      clear hq
      refine jk_v hr hA hP hD hS [1, 2] [0, 3, 4, 5, 6, 7, 8] (WR := [(g0, .inr (2, [.ref a0, .int gsz, .int gdp, .int gst, .int gsp])), (a2, .inl (E.2.1 0, 8, .inl vreg)), (a3, .inl (E.2.1 0, 128, .inl vblk)), (k0, .inr (1, [.ref k1, .ref k2, .int kold, .int kwai, .int ksnt])), (k1, .inl (E.2.1 0, 100, .inl ktyp)), (k2, .inl (E.2.1 0, 500, .inl ksen)), (u0, .inl (E.2.1 0, 1024, .inl uf))]) rfl rfl (by decide) (by decide) [0, 7, 8, 1, 2, 3, 4, 5, 6] (WF := [(g0, .inr (2, [.ref a0, .int gsz, .int gdp, .int gst, .int gsp])), (a0, .inr (0, [.ref a1, .ref a2, .ref a3, .ref k0, .int vsz, .int vmd, .int vpc, .int vba, .int vbo, .int vre, .int vti, .int vro, .int vha])), (a1, .inl (E.2.1 0, 1844, .inl vmem_4)), (a2, .inl (E.2.1 0, 8, .inl vreg)), (a3, .inl (E.2.1 0, 128, .inl vblk)), (k0, .inr (1, [.ref k1, .ref k2, .int kold, .int kwai, .int ksnt])), (k1, .inl (E.2.1 0, 100, .inl ktyp)), (k2, .inl (E.2.1 0, 500, .inl ksen)), (u0, .inl (E.2.1 0, 1024, .inl uf))]) rfl (by decide) ?_
      clear hP hD hS
      intro H locs hP hD hS
      clear hr
      refine lv_iinc (v := (x5 + 1)) (lv' := [(5, .int (x5 + 1)), (0, .ref g0), (1, .ref u0), (2, .int x2), (4, .int x4)]) J.1 J.2.1 d_GU_begin_68 hl (k := 4) rfl rfl (by decide) rfl ?_
      clear hl
      intro ls hl
      refine lv_goto (tgt := 42) J.1 J.2.1 d_GU_begin_71 (by decide) ?_
      exact ih _ _ _ _ _ _ _ _ _ _ _ _ _ _ _ _ _ _ _ _ _ _ _ _ _ _ _ _ h hP hD hS (lv_sub hl [1, 2, 3, 4, 0] rfl)
set_option maxHeartbeats 4000000 in
set_option maxRecDepth 100000 in
theorem ct_GU_begin (l : Launch) (E : jz_E) (a0 a1 a2 a3 g0 k0 k1 k2 u0 w9 : Nat) (sz : Nat) (wW : Nat → Int32) (gsz : Int32) (gdp : Int32) (gst : Int32) (gsp : Int32) (vsz : Int32) (vmd : Int32) (vpc : Int32) (vba : Int32) (vbo : Int32) (vre : Int32) (vti : Int32) (vro : Int32) (vha : Int32) (vmem : Nat → Int32) (vreg : Nat → Int32) (vblk : Nat → Int32) (kold : Int32) (kwai : Int32) (ksnt : Int32) (ktyp : Nat → Int32) (ksen : Nat → Int32) (uf : Nat → Int32) (p2 : Int32) (p3 : Int32) (p4 : Int32) (o_gsz : Int32) (o_gdp : Int32) (o_gst : Int32) (o_gsp : Int32) (o_vsz : Int32) (o_vmd : Int32) (o_vpc : Int32) (o_vba : Int32) (o_vbo : Int32) (o_vre : Int32) (o_vti : Int32) (o_vro : Int32) (o_vha : Int32) (o_vmem : Nat → Int32) (o_vreg : Nat → Int32) (o_vblk : Nat → Int32) (o_kold : Int32) (o_kwai : Int32) (o_ksnt : Int32) (o_ksen : Nat → Int32)  (hzW : (R_MO, "WORDS", "[I", Value.ref w9) ∈ E.2.2.1) (htW : (w9, 410, wW) ∈ E.2.2.2.1) (h : f_GU_begin wW vmem vreg vblk ktyp ksen uf p2 p3 p4 = some (o_gsz, o_gdp, o_gst, o_gsp, o_vsz, o_vmd, o_vpc, o_vba, o_vbo, o_vre, o_vti, o_vro, o_vha, o_vmem, o_vreg, o_vblk, o_kold, o_kwai, o_ksnt, o_ksen)) : CTv l E y_GU_begin c_GU_begin 6 none ({ frames := 5, cells := 0, slots := 0, locals := 175 }) [.ref g0, .ref u0, .int p2, .int p3, .int p4] [(g0, .inr (2, [.ref a0, .int gsz, .int gdp, .int gst, .int gsp])), (a0, .inr (0, [.ref a1, .ref a2, .ref a3, .ref k0, .int vsz, .int vmd, .int vpc, .int vba, .int vbo, .int vre, .int vti, .int vro, .int vha])), (a1, .inl (E.2.1 0, 1844, .inl vmem)), (a2, .inl (E.2.1 0, 8, .inl vreg)), (a3, .inl (E.2.1 0, 128, .inl vblk)), (k0, .inr (1, [.ref k1, .ref k2, .int kold, .int kwai, .int ksnt])), (k1, .inl (E.2.1 0, 100, .inl ktyp)), (k2, .inl (E.2.1 0, 500, .inl ksen)), (u0, .inl (E.2.1 0, 1024, .inl uf))] sz [(g0, .inr (2, [.ref a0, .int o_gsz, .int o_gdp, .int o_gst, .int o_gsp])), (a0, .inr (0, [.ref a1, .ref a2, .ref a3, .ref k0, .int o_vsz, .int o_vmd, .int o_vpc, .int o_vba, .int o_vbo, .int o_vre, .int o_vti, .int o_vro, .int o_vha])), (a1, .inl (E.2.1 0, 1844, .inl o_vmem)), (a2, .inl (E.2.1 0, 8, .inl o_vreg)), (a3, .inl (E.2.1 0, 128, .inl o_vblk)), (k0, .inr (1, [.ref k1, .ref k2, .int o_kold, .int o_kwai, .int o_ksnt])), (k1, .inl (E.2.1 0, 100, .inl ktyp)), (k2, .inl (E.2.1 0, 500, .inl o_ksen)), (u0, .inl (E.2.1 0, 1024, .inl uf))] := by
  refine jw (by decide +kernel) (Nat.le_of_ble_eq_true rfl) ?_
  intro p e s m below meth c A ls J hJ hAe hsz hA hZ hP hD hl
  rw [← hAe]
  have hS : va_S A s.heap s.heap [] := va_S.rf
  have hl : lv_has ls 6 [(0, .ref g0), (1, .ref u0), (2, .int p2), (3, .int p3), (4, .int p4)] := hl
  unfold f_GU_begin at h
  refine lv_aload_n J.1 J.2.1 d_GU_begin_0 rfl (lv_at hl 0 rfl) ?_
  refine lv_iload_n J.1 J.2.1 d_GU_begin_1 rfl (lv_at hl 3 rfl) ?_
  refine jp J hJ hP hD hS 0 rfl rfl i_GU t_GU t_GU_ok n_GU 1 (by decide) gf_GU_22 rfl rfl rfl (Nat.le_of_ble_eq_true rfl) d_GU_begin_2 (WS' := [(g0, .inr (2, [.ref a0, .int p3, .int gdp, .int gst, .int gsp])), (a0, .inr (0, [.ref a1, .ref a2, .ref a3, .ref k0, .int vsz, .int vmd, .int vpc, .int vba, .int vbo, .int vre, .int vti, .int vro, .int vha])), (a1, .inl (E.2.1 0, 1844, .inl vmem)), (a2, .inl (E.2.1 0, 8, .inl vreg)), (a3, .inl (E.2.1 0, 128, .inl vblk)), (k0, .inr (1, [.ref k1, .ref k2, .int kold, .int kwai, .int ksnt])), (k1, .inl (E.2.1 0, 100, .inl ktyp)), (k2, .inl (E.2.1 0, 500, .inl ksen)), (u0, .inl (E.2.1 0, 1024, .inl uf))]) rfl ?_
  clear hP hD hS
  intro H locs hP hD hS
  refine lv_aload_n J.1 J.2.1 d_GU_begin_5 rfl (lv_at hl 0 rfl) ?_
  refine lv_iload J.1 J.2.1 d_GU_begin_6 (lv_at hl 4 rfl) ?_
  refine jp J hJ hP hD hS 0 rfl rfl i_GU t_GU t_GU_ok n_GU 2 (by decide) gf_GU_26 rfl rfl rfl (Nat.le_of_ble_eq_true rfl) d_GU_begin_8 (WS' := [(g0, .inr (2, [.ref a0, .int p3, .int p4, .int gst, .int gsp])), (a0, .inr (0, [.ref a1, .ref a2, .ref a3, .ref k0, .int vsz, .int vmd, .int vpc, .int vba, .int vbo, .int vre, .int vti, .int vro, .int vha])), (a1, .inl (E.2.1 0, 1844, .inl vmem)), (a2, .inl (E.2.1 0, 8, .inl vreg)), (a3, .inl (E.2.1 0, 128, .inl vblk)), (k0, .inr (1, [.ref k1, .ref k2, .int kold, .int kwai, .int ksnt])), (k1, .inl (E.2.1 0, 100, .inl ktyp)), (k2, .inl (E.2.1 0, 500, .inl ksen)), (u0, .inl (E.2.1 0, 1024, .inl uf))]) rfl ?_
  clear hP hD hS
  intro H locs hP hD hS
  refine lv_aload_n J.1 J.2.1 d_GU_begin_11 rfl (lv_at hl 0 rfl) ?_
  refine lv_iload J.1 J.2.1 d_GU_begin_12 (lv_at hl 4 rfl) ?_
  refine lv_sipush (v := 410) J.1 J.2.1 d_GU_begin_14 (by decide) ?_
  refine lv_imul J.1 J.2.1 d_GU_begin_17 ?_
  refine jp J hJ hP hD hS 0 rfl rfl i_GU t_GU t_GU_ok n_GU 3 (by decide) gf_GU_29 rfl rfl rfl (Nat.le_of_ble_eq_true rfl) d_GU_begin_18 (WS' := [(g0, .inr (2, [.ref a0, .int p3, .int p4, .int (p4 * 410), .int gsp])), (a0, .inr (0, [.ref a1, .ref a2, .ref a3, .ref k0, .int vsz, .int vmd, .int vpc, .int vba, .int vbo, .int vre, .int vti, .int vro, .int vha])), (a1, .inl (E.2.1 0, 1844, .inl vmem)), (a2, .inl (E.2.1 0, 8, .inl vreg)), (a3, .inl (E.2.1 0, 128, .inl vblk)), (k0, .inr (1, [.ref k1, .ref k2, .int kold, .int kwai, .int ksnt])), (k1, .inl (E.2.1 0, 100, .inl ktyp)), (k2, .inl (E.2.1 0, 500, .inl ksen)), (u0, .inl (E.2.1 0, 1024, .inl uf))]) rfl ?_
  clear hP hD hS
  intro H locs hP hD hS
  refine lv_aload_n J.1 J.2.1 d_GU_begin_21 rfl (lv_at hl 0 rfl) ?_
  refine lv_iconst (v := 0) J.1 J.2.1 d_GU_begin_22 (by decide) ?_
  refine jp J hJ hP hD hS 0 rfl rfl i_GU t_GU t_GU_ok n_GU 4 (by decide) gf_GU_32 rfl rfl rfl (Nat.le_of_ble_eq_true rfl) d_GU_begin_23 (WS' := [(g0, .inr (2, [.ref a0, .int p3, .int p4, .int (p4 * 410), .int 0])), (a0, .inr (0, [.ref a1, .ref a2, .ref a3, .ref k0, .int vsz, .int vmd, .int vpc, .int vba, .int vbo, .int vre, .int vti, .int vro, .int vha])), (a1, .inl (E.2.1 0, 1844, .inl vmem)), (a2, .inl (E.2.1 0, 8, .inl vreg)), (a3, .inl (E.2.1 0, 128, .inl vblk)), (k0, .inr (1, [.ref k1, .ref k2, .int kold, .int kwai, .int ksnt])), (k1, .inl (E.2.1 0, 100, .inl ktyp)), (k2, .inl (E.2.1 0, 500, .inl ksen)), (u0, .inl (E.2.1 0, 1024, .inl uf))]) rfl ?_
  clear hP hD hS
  intro H locs hP hD hS
  refine lv_aload_n J.1 J.2.1 d_GU_begin_26 rfl (lv_at hl 0 rfl) ?_
  refine jg J hJ hP 0 rfl rfl i_GU 0 (by decide) gf_GU_16 rfl d_GU_begin_27 ?_
  refine lv_aload_n J.1 J.2.1 d_GU_begin_30 rfl (lv_at hl 0 rfl) ?_
  refine jg J hJ hP 0 rfl rfl i_GU 3 (by decide) gf_GU_29 rfl d_GU_begin_31 ?_
  refine lv_iload_n J.1 J.2.1 d_GU_begin_34 rfl (lv_at hl 3 rfl) ?_
  refine lv_iadd J.1 J.2.1 d_GU_begin_35 ?_
  replace h := g_bd h
  obtain ⟨⟨vsz_5, vmd_5, vpc_5, vba_5, vbo_5, vre_5, vti_5, vro_5, vha_5, vmem_5, vreg_5, vblk_5, kold_5, kwai_5, ksnt_5⟩, q_5, h⟩ := h
  try dsimp only at h
  have hq := ct_MA_clear l E a0 a1 a2 a3 k0 k1 k2 H.size vsz vmd vpc vba vbo vre vti vro vha vmem vreg vblk kold kwai ksnt ((p4 * 410) + p3) vsz_5 vmd_5 vpc_5 vba_5 vbo_5 vre_5 vti_5 vro_5 vha_5 vmem_5 vreg_5 vblk_5 kold_5 kwai_5 ksnt_5 q_5
  have hr := jrunV (p := p) (e := e) (below := below) (R := ({ frames := 5, cells := 0, slots := 0, locals := 175 })) (cells := 0) (slots := 0) (As := [.int ((p4 * 410) + p3)]) (rest := []) J hJ hA hZ hP hD hS hq [1, 2, 3, 4, 5] rfl (by decide) gl_GU_35 gi_MA_clear gsel_MA_clear gini_MA gc_MA_clear hd_MA_clear ⟨rfl, rfl, Nat.le_of_ble_eq_true rfl, Nat.le_of_ble_eq_true rfl⟩ rfl rfl hl.1 rfl rfl (Nat.le_of_ble_eq_true rfl) d_GU_begin_36 ⟨Nat.zero_le _, Nat.zero_le _⟩
  clear hq
  refine jk_v hr hA hP hD hS [1, 2, 3, 4, 5] [0, 6, 7, 8] (WR := [(g0, .inr (2, [.ref a0, .int p3, .int p4, .int (p4 * 410), .int 0])), (k1, .inl (E.2.1 0, 100, .inl ktyp)), (k2, .inl (E.2.1 0, 500, .inl ksen)), (u0, .inl (E.2.1 0, 1024, .inl uf))]) rfl rfl (by decide) (by decide) [0, 4, 5, 6, 7, 8, 1, 2, 3] (WF := [(g0, .inr (2, [.ref a0, .int p3, .int p4, .int (p4 * 410), .int 0])), (a0, .inr (0, [.ref a1, .ref a2, .ref a3, .ref k0, .int vsz_5, .int vmd_5, .int vpc_5, .int vba_5, .int vbo_5, .int vre_5, .int vti_5, .int vro_5, .int vha_5])), (a1, .inl (E.2.1 0, 1844, .inl vmem_5)), (a2, .inl (E.2.1 0, 8, .inl vreg_5)), (a3, .inl (E.2.1 0, 128, .inl vblk_5)), (k0, .inr (1, [.ref k1, .ref k2, .int kold_5, .int kwai_5, .int ksnt_5])), (k1, .inl (E.2.1 0, 100, .inl ktyp)), (k2, .inl (E.2.1 0, 500, .inl ksen)), (u0, .inl (E.2.1 0, 1024, .inl uf))]) rfl (by decide) ?_
  clear hP hD hS
  intro H locs hP hD hS
  clear hr
  refine lv_iconst (v := 0) J.1 J.2.1 d_GU_begin_39 (by decide) ?_
  refine lv_istore (lv' := [(5, .int 0), (0, .ref g0), (1, .ref u0), (2, .int p2), (3, .int p3), (4, .int p4)]) J.1 J.2.1 d_GU_begin_40 hl (by decide) rfl ?_
  clear hl
  intro ls hl
  exact kb_GU_begin_42 J hJ hA hZ hzW htW _ _ _ _ _ _ _ _ _ _ _ _ _ _ _ _ _ _ _ _ _ _ _ _ _ _ _ _ _ h hP hD hS (lv_sub hl [1, 2, 3, 5, 0] rfl)
