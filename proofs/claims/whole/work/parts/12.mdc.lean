theorem hd_MD_begin : y_MD_begin.cls ≠ "java/lang/invoke/MethodHandle" ∧ y_MD_begin.cls ≠ "java/lang/invoke/VarHandle" ∧ (parseMethodDescriptor y_MD_begin.desc).map (fun d => d.parameters.length) = some 3 := by decide +kernel
def b_MD_begin_90 : Nat → (Nat → Int32) → (Nat → Int32) → (Nat → Int32) → (Nat → Int32) → (Nat → Int32) → (Nat → Int32) → (Nat → Int32) → (Nat → Int32) → (Nat → Int32) → (Nat → Int32) → (Nat → Int32) → (Nat → Int32) → (Nat → Int32) → (Nat → Int32) → (Nat → Int32) → (Nat → Int32) → Int32 → Int32 → Int32 → Option ((Nat → Int32) × (Nat → Int32) × (Nat → Int32) × (Nat → Int32) × (Nat → Int32) × (Nat → Int32) × (Nat → Int32) × (Nat → Int32) × (Nat → Int32) × (Nat → Int32) × (Nat → Int32) × (Nat → Int32) × (Nat → Int32) × (Nat → Int32) × (Nat → Int32) × (Nat → Int32))
  | 0, _, _, _, _, _, _, _, _, _, _, _, _, _, _, _, _, _, _, _ => none
  | n + 1, zisThere, zsize, zdepth, zmemory, zregister, zmode, zpc, zbase, zbound, ztimer, zranOut, zhalted, zsteps, zouts, zwaits, zdisk, x1, x2, x4 => (if (128 : Int32) ≤ x4 then (if ck x1 3 then (if ck x1 3 then (if ck x1 3 then (if ck x1 3 then (if ck x1 3 then (if ck x1 3 then (if ck x1 3 then (if ck x1 3 then (if ck x1 3 then (if ck x1 3 then (some (zisThere, zsize, zdepth, zmemory, zregister, (upd zmode x1.toNatClampNeg 0), (upd zpc x1.toNatClampNeg 16), (upd zbase x1.toNatClampNeg 0), (upd zbound x1.toNatClampNeg x2), (upd ztimer x1.toNatClampNeg 0), (upd zranOut x1.toNatClampNeg (vp_nar .boolean 0)), (upd zhalted x1.toNatClampNeg (vp_nar .boolean 0)), (upd zsteps x1.toNatClampNeg 0), (upd zouts x1.toNatClampNeg 0), (upd zwaits x1.toNatClampNeg 0), zdisk)) else none) else none) else none) else none) else none) else none) else none) else none) else none) else none) else (if ck ((128 * x1) + x4) 384 then b_MD_begin_90 n zisThere zsize zdepth zmemory zregister zmode zpc zbase zbound ztimer zranOut zhalted zsteps zouts zwaits (upd zdisk ((128 * x1) + x4).toNatClampNeg 0) x1 x2 (x4 + 1) else none))
def b_MD_begin_61 : Nat → (Nat → Int32) → (Nat → Int32) → (Nat → Int32) → (Nat → Int32) → (Nat → Int32) → (Nat → Int32) → (Nat → Int32) → (Nat → Int32) → (Nat → Int32) → (Nat → Int32) → (Nat → Int32) → (Nat → Int32) → (Nat → Int32) → (Nat → Int32) → (Nat → Int32) → (Nat → Int32) → Int32 → Int32 → Int32 → Option ((Nat → Int32) × (Nat → Int32) × (Nat → Int32) × (Nat → Int32) × (Nat → Int32) × (Nat → Int32) × (Nat → Int32) × (Nat → Int32) × (Nat → Int32) × (Nat → Int32) × (Nat → Int32) × (Nat → Int32) × (Nat → Int32) × (Nat → Int32) × (Nat → Int32) × (Nat → Int32))
  | 0, _, _, _, _, _, _, _, _, _, _, _, _, _, _, _, _, _, _, _ => none
  | n + 1, zisThere, zsize, zdepth, zmemory, zregister, zmode, zpc, zbase, zbound, ztimer, zranOut, zhalted, zsteps, zouts, zwaits, zdisk, x1, x2, x4 => (if (8 : Int32) ≤ x4 then b_MD_begin_90 65536 zisThere zsize zdepth zmemory zregister zmode zpc zbase zbound ztimer zranOut zhalted zsteps zouts zwaits zdisk x1 x2 0 else (if ck ((8 * x1) + x4) 24 then b_MD_begin_61 n zisThere zsize zdepth zmemory (upd zregister ((8 * x1) + x4).toNatClampNeg 0) zmode zpc zbase zbound ztimer zranOut zhalted zsteps zouts zwaits zdisk x1 x2 (x4 + 1) else none))
def b_MD_begin_24 : Nat → (Nat → Int32) → (Nat → Int32) → (Nat → Int32) → (Nat → Int32) → (Nat → Int32) → (Nat → Int32) → (Nat → Int32) → (Nat → Int32) → (Nat → Int32) → (Nat → Int32) → (Nat → Int32) → (Nat → Int32) → (Nat → Int32) → (Nat → Int32) → (Nat → Int32) → (Nat → Int32) → (Nat → Int32) → Int32 → Int32 → Int32 → Option ((Nat → Int32) × (Nat → Int32) × (Nat → Int32) × (Nat → Int32) × (Nat → Int32) × (Nat → Int32) × (Nat → Int32) × (Nat → Int32) × (Nat → Int32) × (Nat → Int32) × (Nat → Int32) × (Nat → Int32) × (Nat → Int32) × (Nat → Int32) × (Nat → Int32) × (Nat → Int32))
  | 0, _, _, _, _, _, _, _, _, _, _, _, _, _, _, _, _, _, _, _, _ => none
  | n + 1, zisThere, zsize, zdepth, zmemory, zregister, zmode, zpc, zbase, zbound, ztimer, zranOut, zhalted, zsteps, zouts, zwaits, zdisk, zmade, x1, x2, x4 => (if (1024 : Int32) ≤ x4 then b_MD_begin_61 65536 zisThere zsize zdepth zmemory zregister zmode zpc zbase zbound ztimer zranOut zhalted zsteps zouts zwaits zdisk x1 x2 0 else (if ck x4 1024 then (if ck ((1024 * x1) + x4) 3072 then b_MD_begin_24 n zisThere zsize zdepth (upd zmemory ((1024 * x1) + x4).toNatClampNeg (zmade x4.toNatClampNeg)) zregister zmode zpc zbase zbound ztimer zranOut zhalted zsteps zouts zwaits zdisk zmade x1 x2 (x4 + 1) else none) else none))
def f_MD_begin (zisThere : Nat → Int32) (zsize : Nat → Int32) (zdepth : Nat → Int32) (zmemory : Nat → Int32) (zregister : Nat → Int32) (zmode : Nat → Int32) (zpc : Nat → Int32) (zbase : Nat → Int32) (zbound : Nat → Int32) (ztimer : Nat → Int32) (zranOut : Nat → Int32) (zhalted : Nat → Int32) (zsteps : Nat → Int32) (zouts : Nat → Int32) (zwaits : Nat → Int32) (zdisk : Nat → Int32) (zmade : Nat → Int32) (p1 : Int32) (p2 : Int32) (p3 : Int32) : Option ((Nat → Int32) × (Nat → Int32) × (Nat → Int32) × (Nat → Int32) × (Nat → Int32) × (Nat → Int32) × (Nat → Int32) × (Nat → Int32) × (Nat → Int32) × (Nat → Int32) × (Nat → Int32) × (Nat → Int32) × (Nat → Int32) × (Nat → Int32) × (Nat → Int32) × (Nat → Int32)) := (if ck p1 3 then (if ck p1 3 then (if ck p1 3 then b_MD_begin_24 65536 (upd zisThere p1.toNatClampNeg (vp_nar .boolean 1)) (upd zsize p1.toNatClampNeg p2) (upd zdepth p1.toNatClampNeg p3) zmemory zregister zmode zpc zbase zbound ztimer zranOut zhalted zsteps zouts zwaits zdisk zmade p1 p2 0 else none) else none) else none)
set_option maxHeartbeats 4000000 in
set_option maxRecDepth 100000 in
theorem kb_MD_begin_90 {p : Program} {l : Launch} {e : Env} {s : State} {m : MethodId} {below : List Frame} {meth : Method} {c : Code} {A : Nat → Prop} {E : jz_E} {n0 n_base n_bound n_depth n_disk n_halted n_isThere n_labelAddress n_labelFrom n_labelSize n_made n_memory n_mode n_output n_outs n_pc n_ranOut n_register n_size n_steps n_tape n_timer n_typed n_waits n_wants : Nat} {p1 : Int32} {p2 : Int32} {p3 : Int32} {o_zisThere : Nat → Int32} {o_zsize : Nat → Int32} {o_zdepth : Nat → Int32} {o_zmemory : Nat → Int32} {o_zregister : Nat → Int32} {o_zmode : Nat → Int32} {o_zpc : Nat → Int32} {o_zbase : Nat → Int32} {o_zbound : Nat → Int32} {o_ztimer : Nat → Int32} {o_zranOut : Nat → Int32} {o_zhalted : Nat → Int32} {o_zsteps : Nat → Int32} {o_zouts : Nat → Int32} {o_zwaits : Nat → Int32} {o_zdisk : Nat → Int32} (J : JC p s m ([.ref n0, .int p1, .int p2, .int p3] : List Value).toArray meth c c_MD_begin 5 none y_MD_begin.cls) (hJ : jE E s) (hA : ∀ q : Nat, s.heap.size ≤ q → A q) (hZ : jz_ok E A s s.heap) : ∀ (n : Nat) (ztaped : Int32) (zat : Int32) (zend : Int32) (zline : Int32) (zlabels : Int32) (zfault : Int32) (zfaultLine : Int32) (zisTold : Int32) (zaddress : Int32) (zmissing : Int32) (zgood : Int32) (zvalue : Int32) (zvalueFrom : Int32) (zvalueSize : Int32) (zme : Int32) (zisThere : Nat → Int32) (zsize : Nat → Int32) (zdepth : Nat → Int32) (zmemory : Nat → Int32) (zregister : Nat → Int32) (zmode : Nat → Int32) (zpc : Nat → Int32) (zbase : Nat → Int32) (zbound : Nat → Int32) (ztimer : Nat → Int32) (zranOut : Nat → Int32) (zhalted : Nat → Int32) (zsteps : Nat → Int32) (zouts : Nat → Int32) (zwaits : Nat → Int32) (zdisk : Nat → Int32) (zmade : Nat → Int32) (x1 : Int32) (x2 : Int32) (x4 : Int32) (H : Heap) (locs : List Loc) (ls : Array Slot), b_MD_begin_90 n zisThere zsize zdepth zmemory zregister zmode zpc zbase zbound ztimer zranOut zhalted zsteps zouts zwaits zdisk x1 x2 x4 = some (o_zisThere, o_zsize, o_zdepth, o_zmemory, o_zregister, o_zmode, o_zpc, o_zbase, o_zbound, o_ztimer, o_zranOut, o_zhalted, o_zsteps, o_zouts, o_zwaits, o_zdisk) → va_P E.1 classes [(n0, .inr (6, [.ref n_tape, .int ztaped, .ref n_isThere, .ref n_size, .ref n_depth, .ref n_memory, .ref n_register, .ref n_mode, .ref n_pc, .ref n_base, .ref n_bound, .ref n_timer, .ref n_ranOut, .ref n_halted, .ref n_steps, .ref n_outs, .ref n_output, .ref n_waits, .ref n_typed, .ref n_disk, .ref n_wants, .int zat, .int zend, .int zline, .ref n_labelFrom, .ref n_labelSize, .ref n_labelAddress, .int zlabels, .int zfault, .int zfaultLine, .int zisTold, .int zaddress, .ref n_made, .int zmissing, .int zgood, .int zvalue, .int zvalueFrom, .int zvalueSize, .int zme])), (n_isThere, .inl (E.2.1 3, 3, .inl zisThere)), (n_size, .inl (E.2.1 0, 3, .inl zsize)), (n_depth, .inl (E.2.1 0, 3, .inl zdepth)), (n_memory, .inl (E.2.1 0, 3072, .inl zmemory)), (n_register, .inl (E.2.1 0, 24, .inl zregister)), (n_mode, .inl (E.2.1 0, 3, .inl zmode)), (n_pc, .inl (E.2.1 0, 3, .inl zpc)), (n_base, .inl (E.2.1 0, 3, .inl zbase)), (n_bound, .inl (E.2.1 0, 3, .inl zbound)), (n_timer, .inl (E.2.1 0, 3, .inl ztimer)), (n_ranOut, .inl (E.2.1 3, 3, .inl zranOut)), (n_halted, .inl (E.2.1 3, 3, .inl zhalted)), (n_steps, .inl (E.2.1 0, 3, .inl zsteps)), (n_outs, .inl (E.2.1 0, 3, .inl zouts)), (n_waits, .inl (E.2.1 0, 3, .inl zwaits)), (n_disk, .inl (E.2.1 0, 384, .inl zdisk)), (n_made, .inl (E.2.1 0, 1024, .inl zmade))] H → va_D A [(n0, .inr (6, [.ref n_tape, .int ztaped, .ref n_isThere, .ref n_size, .ref n_depth, .ref n_memory, .ref n_register, .ref n_mode, .ref n_pc, .ref n_base, .ref n_bound, .ref n_timer, .ref n_ranOut, .ref n_halted, .ref n_steps, .ref n_outs, .ref n_output, .ref n_waits, .ref n_typed, .ref n_disk, .ref n_wants, .int zat, .int zend, .int zline, .ref n_labelFrom, .ref n_labelSize, .ref n_labelAddress, .int zlabels, .int zfault, .int zfaultLine, .int zisTold, .int zaddress, .ref n_made, .int zmissing, .int zgood, .int zvalue, .int zvalueFrom, .int zvalueSize, .int zme])), (n_isThere, .inl (E.2.1 3, 3, .inl zisThere)), (n_size, .inl (E.2.1 0, 3, .inl zsize)), (n_depth, .inl (E.2.1 0, 3, .inl zdepth)), (n_memory, .inl (E.2.1 0, 3072, .inl zmemory)), (n_register, .inl (E.2.1 0, 24, .inl zregister)), (n_mode, .inl (E.2.1 0, 3, .inl zmode)), (n_pc, .inl (E.2.1 0, 3, .inl zpc)), (n_base, .inl (E.2.1 0, 3, .inl zbase)), (n_bound, .inl (E.2.1 0, 3, .inl zbound)), (n_timer, .inl (E.2.1 0, 3, .inl ztimer)), (n_ranOut, .inl (E.2.1 3, 3, .inl zranOut)), (n_halted, .inl (E.2.1 3, 3, .inl zhalted)), (n_steps, .inl (E.2.1 0, 3, .inl zsteps)), (n_outs, .inl (E.2.1 0, 3, .inl zouts)), (n_waits, .inl (E.2.1 0, 3, .inl zwaits)), (n_disk, .inl (E.2.1 0, 384, .inl zdisk)), (n_made, .inl (E.2.1 0, 1024, .inl zmade))] → va_S A s.heap H locs → lv_has ls 5 [(0, .ref n0), (1, .int x1), (2, .int x2), (4, .int x4)] → W p l e ({ frames := 0, cells := 0, slots := 0, locals := 0 }) s m ([.ref n0, .int p1, .int p2, .int p3] : List Value).toArray below meth c H locs 0 0 (MQ below (va_Qv (fun (u : va_W) => u = [(n0, .inr (6, [.ref n_tape, .int ztaped, .ref n_isThere, .ref n_size, .ref n_depth, .ref n_memory, .ref n_register, .ref n_mode, .ref n_pc, .ref n_base, .ref n_bound, .ref n_timer, .ref n_ranOut, .ref n_halted, .ref n_steps, .ref n_outs, .ref n_output, .ref n_waits, .ref n_typed, .ref n_disk, .ref n_wants, .int zat, .int zend, .int zline, .ref n_labelFrom, .ref n_labelSize, .ref n_labelAddress, .int zlabels, .int zfault, .int zfaultLine, .int zisTold, .int zaddress, .ref n_made, .int zmissing, .int zgood, .int zvalue, .int zvalueFrom, .int zvalueSize, .int zme])), (n_isThere, .inl (E.2.1 3, 3, .inl o_zisThere)), (n_size, .inl (E.2.1 0, 3, .inl o_zsize)), (n_depth, .inl (E.2.1 0, 3, .inl o_zdepth)), (n_memory, .inl (E.2.1 0, 3072, .inl o_zmemory)), (n_register, .inl (E.2.1 0, 24, .inl o_zregister)), (n_mode, .inl (E.2.1 0, 3, .inl o_zmode)), (n_pc, .inl (E.2.1 0, 3, .inl o_zpc)), (n_base, .inl (E.2.1 0, 3, .inl o_zbase)), (n_bound, .inl (E.2.1 0, 3, .inl o_zbound)), (n_timer, .inl (E.2.1 0, 3, .inl o_ztimer)), (n_ranOut, .inl (E.2.1 3, 3, .inl o_zranOut)), (n_halted, .inl (E.2.1 3, 3, .inl o_zhalted)), (n_steps, .inl (E.2.1 0, 3, .inl o_zsteps)), (n_outs, .inl (E.2.1 0, 3, .inl o_zouts)), (n_waits, .inl (E.2.1 0, 3, .inl o_zwaits)), (n_disk, .inl (E.2.1 0, 384, .inl o_zdisk)), (n_made, .inl (E.2.1 0, 1024, .inl zmade))]) (BW E A) A) ([.ref n0, .int p1, .int p2, .int p3] : List Value).toArray s 0 0 A) (F0 m 90 ls []) := by
  intro n
  induction n with
  | zero => intro ztaped zat zend zline zlabels zfault zfaultLine zisTold zaddress zmissing zgood zvalue zvalueFrom zvalueSize zme zisThere zsize zdepth zmemory zregister zmode zpc zbase zbound ztimer zranOut zhalted zsteps zouts zwaits zdisk zmade x1 x2 x4 H locs ls h; cases h
  | succ n ih =>
    intro ztaped zat zend zline zlabels zfault zfaultLine zisTold zaddress zmissing zgood zvalue zvalueFrom zvalueSize zme zisThere zsize zdepth zmemory zregister zmode zpc zbase zbound ztimer zranOut zhalted zsteps zouts zwaits zdisk zmade x1 x2 x4 H locs ls h hP hD hS hl
    rw [b_MD_begin_90] at h
    refine lv_iload J.1 J.2.1 d_MD_begin_90 (lv_at hl 3 rfl) ?_
    refine lv_sipush (v := 128) J.1 J.2.1 d_MD_begin_92 (by decide) ?_
    refine lv_icmp_ge (tgt := 118) J.1 J.2.1 d_MD_begin_95 (by decide) (fun c_1 => ?_) (fun c_1 => ?_)
    · replace h := g_t c_1 h
      refine lv_aload_n J.1 J.2.1 d_MD_begin_118 rfl (lv_at hl 0 rfl) ?_
      refine jg J hJ hP 0 rfl rfl i_MD 7 (by decide) gf_MD_38 rfl d_MD_begin_119 ?_
      refine lv_iload_n J.1 J.2.1 d_MD_begin_122 rfl (lv_at hl 1 rfl) ?_
      refine lv_iconst (v := 0) J.1 J.2.1 d_MD_begin_123 (by decide) ?_
      replace h := g_ck h
      obtain ⟨k_2, h⟩ := h
      refine jsi J hJ hP hD hS 6 rfl k_2 d_MD_begin_124 (WS' := [(n0, .inr (6, [.ref n_tape, .int ztaped, .ref n_isThere, .ref n_size, .ref n_depth, .ref n_memory, .ref n_register, .ref n_mode, .ref n_pc, .ref n_base, .ref n_bound, .ref n_timer, .ref n_ranOut, .ref n_halted, .ref n_steps, .ref n_outs, .ref n_output, .ref n_waits, .ref n_typed, .ref n_disk, .ref n_wants, .int zat, .int zend, .int zline, .ref n_labelFrom, .ref n_labelSize, .ref n_labelAddress, .int zlabels, .int zfault, .int zfaultLine, .int zisTold, .int zaddress, .ref n_made, .int zmissing, .int zgood, .int zvalue, .int zvalueFrom, .int zvalueSize, .int zme])), (n_isThere, .inl (E.2.1 3, 3, .inl zisThere)), (n_size, .inl (E.2.1 0, 3, .inl zsize)), (n_depth, .inl (E.2.1 0, 3, .inl zdepth)), (n_memory, .inl (E.2.1 0, 3072, .inl zmemory)), (n_register, .inl (E.2.1 0, 24, .inl zregister)), (n_mode, .inl (E.2.1 0, 3, .inl (upd zmode x1.toNatClampNeg 0))), (n_pc, .inl (E.2.1 0, 3, .inl zpc)), (n_base, .inl (E.2.1 0, 3, .inl zbase)), (n_bound, .inl (E.2.1 0, 3, .inl zbound)), (n_timer, .inl (E.2.1 0, 3, .inl ztimer)), (n_ranOut, .inl (E.2.1 3, 3, .inl zranOut)), (n_halted, .inl (E.2.1 3, 3, .inl zhalted)), (n_steps, .inl (E.2.1 0, 3, .inl zsteps)), (n_outs, .inl (E.2.1 0, 3, .inl zouts)), (n_waits, .inl (E.2.1 0, 3, .inl zwaits)), (n_disk, .inl (E.2.1 0, 384, .inl zdisk)), (n_made, .inl (E.2.1 0, 1024, .inl zmade))]) rfl ?_
      clear hP hD hS
      intro H locs hP hD hS
      refine lv_aload_n J.1 J.2.1 d_MD_begin_125 rfl (lv_at hl 0 rfl) ?_
      refine jg J hJ hP 0 rfl rfl i_MD 8 (by decide) gf_MD_41 rfl d_MD_begin_126 ?_
      refine lv_iload_n J.1 J.2.1 d_MD_begin_129 rfl (lv_at hl 1 rfl) ?_
      refine lv_bipush (v := 16) J.1 J.2.1 d_MD_begin_130 (by decide) ?_
      replace h := g_ck h
      obtain ⟨k_3, h⟩ := h
      refine jsi J hJ hP hD hS 7 rfl k_3 d_MD_begin_132 (WS' := [(n0, .inr (6, [.ref n_tape, .int ztaped, .ref n_isThere, .ref n_size, .ref n_depth, .ref n_memory, .ref n_register, .ref n_mode, .ref n_pc, .ref n_base, .ref n_bound, .ref n_timer, .ref n_ranOut, .ref n_halted, .ref n_steps, .ref n_outs, .ref n_output, .ref n_waits, .ref n_typed, .ref n_disk, .ref n_wants, .int zat, .int zend, .int zline, .ref n_labelFrom, .ref n_labelSize, .ref n_labelAddress, .int zlabels, .int zfault, .int zfaultLine, .int zisTold, .int zaddress, .ref n_made, .int zmissing, .int zgood, .int zvalue, .int zvalueFrom, .int zvalueSize, .int zme])), (n_isThere, .inl (E.2.1 3, 3, .inl zisThere)), (n_size, .inl (E.2.1 0, 3, .inl zsize)), (n_depth, .inl (E.2.1 0, 3, .inl zdepth)), (n_memory, .inl (E.2.1 0, 3072, .inl zmemory)), (n_register, .inl (E.2.1 0, 24, .inl zregister)), (n_mode, .inl (E.2.1 0, 3, .inl (upd zmode x1.toNatClampNeg 0))), (n_pc, .inl (E.2.1 0, 3, .inl (upd zpc x1.toNatClampNeg 16))), (n_base, .inl (E.2.1 0, 3, .inl zbase)), (n_bound, .inl (E.2.1 0, 3, .inl zbound)), (n_timer, .inl (E.2.1 0, 3, .inl ztimer)), (n_ranOut, .inl (E.2.1 3, 3, .inl zranOut)), (n_halted, .inl (E.2.1 3, 3, .inl zhalted)), (n_steps, .inl (E.2.1 0, 3, .inl zsteps)), (n_outs, .inl (E.2.1 0, 3, .inl zouts)), (n_waits, .inl (E.2.1 0, 3, .inl zwaits)), (n_disk, .inl (E.2.1 0, 384, .inl zdisk)), (n_made, .inl (E.2.1 0, 1024, .inl zmade))]) rfl ?_
      clear hP hD hS
      intro H locs hP hD hS
      refine lv_aload_n J.1 J.2.1 d_MD_begin_133 rfl (lv_at hl 0 rfl) ?_
      refine jg J hJ hP 0 rfl rfl i_MD 9 (by decide) gf_MD_44 rfl d_MD_begin_134 ?_
      refine lv_iload_n J.1 J.2.1 d_MD_begin_137 rfl (lv_at hl 1 rfl) ?_
      refine lv_iconst (v := 0) J.1 J.2.1 d_MD_begin_138 (by decide) ?_
      replace h := g_ck h
      obtain ⟨k_4, h⟩ := h
      refine jsi J hJ hP hD hS 8 rfl k_4 d_MD_begin_139 (WS' := [(n0, .inr (6, [.ref n_tape, .int ztaped, .ref n_isThere, .ref n_size, .ref n_depth, .ref n_memory, .ref n_register, .ref n_mode, .ref n_pc, .ref n_base, .ref n_bound, .ref n_timer, .ref n_ranOut, .ref n_halted, .ref n_steps, .ref n_outs, .ref n_output, .ref n_waits, .ref n_typed, .ref n_disk, .ref n_wants, .int zat, .int zend, .int zline, .ref n_labelFrom, .ref n_labelSize, .ref n_labelAddress, .int zlabels, .int zfault, .int zfaultLine, .int zisTold, .int zaddress, .ref n_made, .int zmissing, .int zgood, .int zvalue, .int zvalueFrom, .int zvalueSize, .int zme])), (n_isThere, .inl (E.2.1 3, 3, .inl zisThere)), (n_size, .inl (E.2.1 0, 3, .inl zsize)), (n_depth, .inl (E.2.1 0, 3, .inl zdepth)), (n_memory, .inl (E.2.1 0, 3072, .inl zmemory)), (n_register, .inl (E.2.1 0, 24, .inl zregister)), (n_mode, .inl (E.2.1 0, 3, .inl (upd zmode x1.toNatClampNeg 0))), (n_pc, .inl (E.2.1 0, 3, .inl (upd zpc x1.toNatClampNeg 16))), (n_base, .inl (E.2.1 0, 3, .inl (upd zbase x1.toNatClampNeg 0))), (n_bound, .inl (E.2.1 0, 3, .inl zbound)), (n_timer, .inl (E.2.1 0, 3, .inl ztimer)), (n_ranOut, .inl (E.2.1 3, 3, .inl zranOut)), (n_halted, .inl (E.2.1 3, 3, .inl zhalted)), (n_steps, .inl (E.2.1 0, 3, .inl zsteps)), (n_outs, .inl (E.2.1 0, 3, .inl zouts)), (n_waits, .inl (E.2.1 0, 3, .inl zwaits)), (n_disk, .inl (E.2.1 0, 384, .inl zdisk)), (n_made, .inl (E.2.1 0, 1024, .inl zmade))]) rfl ?_
      clear hP hD hS
      intro H locs hP hD hS
      refine lv_aload_n J.1 J.2.1 d_MD_begin_140 rfl (lv_at hl 0 rfl) ?_
      refine jg J hJ hP 0 rfl rfl i_MD 10 (by decide) gf_MD_47 rfl d_MD_begin_141 ?_
      refine lv_iload_n J.1 J.2.1 d_MD_begin_144 rfl (lv_at hl 1 rfl) ?_
      refine lv_iload_n J.1 J.2.1 d_MD_begin_145 rfl (lv_at hl 2 rfl) ?_
      replace h := g_ck h
      obtain ⟨k_5, h⟩ := h
      refine jsi J hJ hP hD hS 9 rfl k_5 d_MD_begin_146 (WS' := [(n0, .inr (6, [.ref n_tape, .int ztaped, .ref n_isThere, .ref n_size, .ref n_depth, .ref n_memory, .ref n_register, .ref n_mode, .ref n_pc, .ref n_base, .ref n_bound, .ref n_timer, .ref n_ranOut, .ref n_halted, .ref n_steps, .ref n_outs, .ref n_output, .ref n_waits, .ref n_typed, .ref n_disk, .ref n_wants, .int zat, .int zend, .int zline, .ref n_labelFrom, .ref n_labelSize, .ref n_labelAddress, .int zlabels, .int zfault, .int zfaultLine, .int zisTold, .int zaddress, .ref n_made, .int zmissing, .int zgood, .int zvalue, .int zvalueFrom, .int zvalueSize, .int zme])), (n_isThere, .inl (E.2.1 3, 3, .inl zisThere)), (n_size, .inl (E.2.1 0, 3, .inl zsize)), (n_depth, .inl (E.2.1 0, 3, .inl zdepth)), (n_memory, .inl (E.2.1 0, 3072, .inl zmemory)), (n_register, .inl (E.2.1 0, 24, .inl zregister)), (n_mode, .inl (E.2.1 0, 3, .inl (upd zmode x1.toNatClampNeg 0))), (n_pc, .inl (E.2.1 0, 3, .inl (upd zpc x1.toNatClampNeg 16))), (n_base, .inl (E.2.1 0, 3, .inl (upd zbase x1.toNatClampNeg 0))), (n_bound, .inl (E.2.1 0, 3, .inl (upd zbound x1.toNatClampNeg x2))), (n_timer, .inl (E.2.1 0, 3, .inl ztimer)), (n_ranOut, .inl (E.2.1 3, 3, .inl zranOut)), (n_halted, .inl (E.2.1 3, 3, .inl zhalted)), (n_steps, .inl (E.2.1 0, 3, .inl zsteps)), (n_outs, .inl (E.2.1 0, 3, .inl zouts)), (n_waits, .inl (E.2.1 0, 3, .inl zwaits)), (n_disk, .inl (E.2.1 0, 384, .inl zdisk)), (n_made, .inl (E.2.1 0, 1024, .inl zmade))]) rfl ?_
      clear hP hD hS
      intro H locs hP hD hS
      refine lv_aload_n J.1 J.2.1 d_MD_begin_147 rfl (lv_at hl 0 rfl) ?_
      refine jg J hJ hP 0 rfl rfl i_MD 11 (by decide) gf_MD_50 rfl d_MD_begin_148 ?_
      refine lv_iload_n J.1 J.2.1 d_MD_begin_151 rfl (lv_at hl 1 rfl) ?_
      refine lv_iconst (v := 0) J.1 J.2.1 d_MD_begin_152 (by decide) ?_
      replace h := g_ck h
      obtain ⟨k_6, h⟩ := h
      refine jsi J hJ hP hD hS 10 rfl k_6 d_MD_begin_153 (WS' := [(n0, .inr (6, [.ref n_tape, .int ztaped, .ref n_isThere, .ref n_size, .ref n_depth, .ref n_memory, .ref n_register, .ref n_mode, .ref n_pc, .ref n_base, .ref n_bound, .ref n_timer, .ref n_ranOut, .ref n_halted, .ref n_steps, .ref n_outs, .ref n_output, .ref n_waits, .ref n_typed, .ref n_disk, .ref n_wants, .int zat, .int zend, .int zline, .ref n_labelFrom, .ref n_labelSize, .ref n_labelAddress, .int zlabels, .int zfault, .int zfaultLine, .int zisTold, .int zaddress, .ref n_made, .int zmissing, .int zgood, .int zvalue, .int zvalueFrom, .int zvalueSize, .int zme])), (n_isThere, .inl (E.2.1 3, 3, .inl zisThere)), (n_size, .inl (E.2.1 0, 3, .inl zsize)), (n_depth, .inl (E.2.1 0, 3, .inl zdepth)), (n_memory, .inl (E.2.1 0, 3072, .inl zmemory)), (n_register, .inl (E.2.1 0, 24, .inl zregister)), (n_mode, .inl (E.2.1 0, 3, .inl (upd zmode x1.toNatClampNeg 0))), (n_pc, .inl (E.2.1 0, 3, .inl (upd zpc x1.toNatClampNeg 16))), (n_base, .inl (E.2.1 0, 3, .inl (upd zbase x1.toNatClampNeg 0))), (n_bound, .inl (E.2.1 0, 3, .inl (upd zbound x1.toNatClampNeg x2))), (n_timer, .inl (E.2.1 0, 3, .inl (upd ztimer x1.toNatClampNeg 0))), (n_ranOut, .inl (E.2.1 3, 3, .inl zranOut)), (n_halted, .inl (E.2.1 3, 3, .inl zhalted)), (n_steps, .inl (E.2.1 0, 3, .inl zsteps)), (n_outs, .inl (E.2.1 0, 3, .inl zouts)), (n_waits, .inl (E.2.1 0, 3, .inl zwaits)), (n_disk, .inl (E.2.1 0, 384, .inl zdisk)), (n_made, .inl (E.2.1 0, 1024, .inl zmade))]) rfl ?_
      clear hP hD hS
      intro H locs hP hD hS
      refine lv_aload_n J.1 J.2.1 d_MD_begin_154 rfl (lv_at hl 0 rfl) ?_
      refine jg J hJ hP 0 rfl rfl i_MD 12 (by decide) gf_MD_53 rfl d_MD_begin_155 ?_
      refine lv_iload_n J.1 J.2.1 d_MD_begin_158 rfl (lv_at hl 1 rfl) ?_
      refine lv_iconst (v := 0) J.1 J.2.1 d_MD_begin_159 (by decide) ?_
      replace h := g_ck h
      obtain ⟨k_7, h⟩ := h
      refine va_zast J.1 J.2.1 hJ.1 hP hD hS 11 3 rfl rfl k_7 d_MD_begin_160 ?_
      clear hP hD hS
      intro H locs hP hD hS
      have hP : va_P E.1 classes [(n0, .inr (6, [.ref n_tape, .int ztaped, .ref n_isThere, .ref n_size, .ref n_depth, .ref n_memory, .ref n_register, .ref n_mode, .ref n_pc, .ref n_base, .ref n_bound, .ref n_timer, .ref n_ranOut, .ref n_halted, .ref n_steps, .ref n_outs, .ref n_output, .ref n_waits, .ref n_typed, .ref n_disk, .ref n_wants, .int zat, .int zend, .int zline, .ref n_labelFrom, .ref n_labelSize, .ref n_labelAddress, .int zlabels, .int zfault, .int zfaultLine, .int zisTold, .int zaddress, .ref n_made, .int zmissing, .int zgood, .int zvalue, .int zvalueFrom, .int zvalueSize, .int zme])), (n_isThere, .inl (E.2.1 3, 3, .inl zisThere)), (n_size, .inl (E.2.1 0, 3, .inl zsize)), (n_depth, .inl (E.2.1 0, 3, .inl zdepth)), (n_memory, .inl (E.2.1 0, 3072, .inl zmemory)), (n_register, .inl (E.2.1 0, 24, .inl zregister)), (n_mode, .inl (E.2.1 0, 3, .inl (upd zmode x1.toNatClampNeg 0))), (n_pc, .inl (E.2.1 0, 3, .inl (upd zpc x1.toNatClampNeg 16))), (n_base, .inl (E.2.1 0, 3, .inl (upd zbase x1.toNatClampNeg 0))), (n_bound, .inl (E.2.1 0, 3, .inl (upd zbound x1.toNatClampNeg x2))), (n_timer, .inl (E.2.1 0, 3, .inl (upd ztimer x1.toNatClampNeg 0))), (n_ranOut, .inl (E.2.1 3, 3, .inl (upd zranOut x1.toNatClampNeg (vp_nar .boolean 0)))), (n_halted, .inl (E.2.1 3, 3, .inl zhalted)), (n_steps, .inl (E.2.1 0, 3, .inl zsteps)), (n_outs, .inl (E.2.1 0, 3, .inl zouts)), (n_waits, .inl (E.2.1 0, 3, .inl zwaits)), (n_disk, .inl (E.2.1 0, 384, .inl zdisk)), (n_made, .inl (E.2.1 0, 1024, .inl zmade))] H := hP
      have hD : va_D A [(n0, .inr (6, [.ref n_tape, .int ztaped, .ref n_isThere, .ref n_size, .ref n_depth, .ref n_memory, .ref n_register, .ref n_mode, .ref n_pc, .ref n_base, .ref n_bound, .ref n_timer, .ref n_ranOut, .ref n_halted, .ref n_steps, .ref n_outs, .ref n_output, .ref n_waits, .ref n_typed, .ref n_disk, .ref n_wants, .int zat, .int zend, .int zline, .ref n_labelFrom, .ref n_labelSize, .ref n_labelAddress, .int zlabels, .int zfault, .int zfaultLine, .int zisTold, .int zaddress, .ref n_made, .int zmissing, .int zgood, .int zvalue, .int zvalueFrom, .int zvalueSize, .int zme])), (n_isThere, .inl (E.2.1 3, 3, .inl zisThere)), (n_size, .inl (E.2.1 0, 3, .inl zsize)), (n_depth, .inl (E.2.1 0, 3, .inl zdepth)), (n_memory, .inl (E.2.1 0, 3072, .inl zmemory)), (n_register, .inl (E.2.1 0, 24, .inl zregister)), (n_mode, .inl (E.2.1 0, 3, .inl (upd zmode x1.toNatClampNeg 0))), (n_pc, .inl (E.2.1 0, 3, .inl (upd zpc x1.toNatClampNeg 16))), (n_base, .inl (E.2.1 0, 3, .inl (upd zbase x1.toNatClampNeg 0))), (n_bound, .inl (E.2.1 0, 3, .inl (upd zbound x1.toNatClampNeg x2))), (n_timer, .inl (E.2.1 0, 3, .inl (upd ztimer x1.toNatClampNeg 0))), (n_ranOut, .inl (E.2.1 3, 3, .inl (upd zranOut x1.toNatClampNeg (vp_nar .boolean 0)))), (n_halted, .inl (E.2.1 3, 3, .inl zhalted)), (n_steps, .inl (E.2.1 0, 3, .inl zsteps)), (n_outs, .inl (E.2.1 0, 3, .inl zouts)), (n_waits, .inl (E.2.1 0, 3, .inl zwaits)), (n_disk, .inl (E.2.1 0, 384, .inl zdisk)), (n_made, .inl (E.2.1 0, 1024, .inl zmade))] := hD
      refine lv_aload_n J.1 J.2.1 d_MD_begin_161 rfl (lv_at hl 0 rfl) ?_
      refine jg J hJ hP 0 rfl rfl i_MD 13 (by decide) gf_MD_56 rfl d_MD_begin_162 ?_
      refine lv_iload_n J.1 J.2.1 d_MD_begin_165 rfl (lv_at hl 1 rfl) ?_
      refine lv_iconst (v := 0) J.1 J.2.1 d_MD_begin_166 (by decide) ?_
      replace h := g_ck h
      obtain ⟨k_8, h⟩ := h
      refine va_zast J.1 J.2.1 hJ.1 hP hD hS 12 3 rfl rfl k_8 d_MD_begin_167 ?_
      clear hP hD hS
      intro H locs hP hD hS
      have hP : va_P E.1 classes [(n0, .inr (6, [.ref n_tape, .int ztaped, .ref n_isThere, .ref n_size, .ref n_depth, .ref n_memory, .ref n_register, .ref n_mode, .ref n_pc, .ref n_base, .ref n_bound, .ref n_timer, .ref n_ranOut, .ref n_halted, .ref n_steps, .ref n_outs, .ref n_output, .ref n_waits, .ref n_typed, .ref n_disk, .ref n_wants, .int zat, .int zend, .int zline, .ref n_labelFrom, .ref n_labelSize, .ref n_labelAddress, .int zlabels, .int zfault, .int zfaultLine, .int zisTold, .int zaddress, .ref n_made, .int zmissing, .int zgood, .int zvalue, .int zvalueFrom, .int zvalueSize, .int zme])), (n_isThere, .inl (E.2.1 3, 3, .inl zisThere)), (n_size, .inl (E.2.1 0, 3, .inl zsize)), (n_depth, .inl (E.2.1 0, 3, .inl zdepth)), (n_memory, .inl (E.2.1 0, 3072, .inl zmemory)), (n_register, .inl (E.2.1 0, 24, .inl zregister)), (n_mode, .inl (E.2.1 0, 3, .inl (upd zmode x1.toNatClampNeg 0))), (n_pc, .inl (E.2.1 0, 3, .inl (upd zpc x1.toNatClampNeg 16))), (n_base, .inl (E.2.1 0, 3, .inl (upd zbase x1.toNatClampNeg 0))), (n_bound, .inl (E.2.1 0, 3, .inl (upd zbound x1.toNatClampNeg x2))), (n_timer, .inl (E.2.1 0, 3, .inl (upd ztimer x1.toNatClampNeg 0))), (n_ranOut, .inl (E.2.1 3, 3, .inl (upd zranOut x1.toNatClampNeg (vp_nar .boolean 0)))), (n_halted, .inl (E.2.1 3, 3, .inl (upd zhalted x1.toNatClampNeg (vp_nar .boolean 0)))), (n_steps, .inl (E.2.1 0, 3, .inl zsteps)), (n_outs, .inl (E.2.1 0, 3, .inl zouts)), (n_waits, .inl (E.2.1 0, 3, .inl zwaits)), (n_disk, .inl (E.2.1 0, 384, .inl zdisk)), (n_made, .inl (E.2.1 0, 1024, .inl zmade))] H := hP
      have hD : va_D A [(n0, .inr (6, [.ref n_tape, .int ztaped, .ref n_isThere, .ref n_size, .ref n_depth, .ref n_memory, .ref n_register, .ref n_mode, .ref n_pc, .ref n_base, .ref n_bound, .ref n_timer, .ref n_ranOut, .ref n_halted, .ref n_steps, .ref n_outs, .ref n_output, .ref n_waits, .ref n_typed, .ref n_disk, .ref n_wants, .int zat, .int zend, .int zline, .ref n_labelFrom, .ref n_labelSize, .ref n_labelAddress, .int zlabels, .int zfault, .int zfaultLine, .int zisTold, .int zaddress, .ref n_made, .int zmissing, .int zgood, .int zvalue, .int zvalueFrom, .int zvalueSize, .int zme])), (n_isThere, .inl (E.2.1 3, 3, .inl zisThere)), (n_size, .inl (E.2.1 0, 3, .inl zsize)), (n_depth, .inl (E.2.1 0, 3, .inl zdepth)), (n_memory, .inl (E.2.1 0, 3072, .inl zmemory)), (n_register, .inl (E.2.1 0, 24, .inl zregister)), (n_mode, .inl (E.2.1 0, 3, .inl (upd zmode x1.toNatClampNeg 0))), (n_pc, .inl (E.2.1 0, 3, .inl (upd zpc x1.toNatClampNeg 16))), (n_base, .inl (E.2.1 0, 3, .inl (upd zbase x1.toNatClampNeg 0))), (n_bound, .inl (E.2.1 0, 3, .inl (upd zbound x1.toNatClampNeg x2))), (n_timer, .inl (E.2.1 0, 3, .inl (upd ztimer x1.toNatClampNeg 0))), (n_ranOut, .inl (E.2.1 3, 3, .inl (upd zranOut x1.toNatClampNeg (vp_nar .boolean 0)))), (n_halted, .inl (E.2.1 3, 3, .inl (upd zhalted x1.toNatClampNeg (vp_nar .boolean 0)))), (n_steps, .inl (E.2.1 0, 3, .inl zsteps)), (n_outs, .inl (E.2.1 0, 3, .inl zouts)), (n_waits, .inl (E.2.1 0, 3, .inl zwaits)), (n_disk, .inl (E.2.1 0, 384, .inl zdisk)), (n_made, .inl (E.2.1 0, 1024, .inl zmade))] := hD
      refine lv_aload_n J.1 J.2.1 d_MD_begin_168 rfl (lv_at hl 0 rfl) ?_
      refine jg J hJ hP 0 rfl rfl i_MD 14 (by decide) gf_MD_59 rfl d_MD_begin_169 ?_
      refine lv_iload_n J.1 J.2.1 d_MD_begin_172 rfl (lv_at hl 1 rfl) ?_
      refine lv_iconst (v := 0) J.1 J.2.1 d_MD_begin_173 (by decide) ?_
      replace h := g_ck h
      obtain ⟨k_9, h⟩ := h
      refine jsi J hJ hP hD hS 13 rfl k_9 d_MD_begin_174 (WS' := [(n0, .inr (6, [.ref n_tape, .int ztaped, .ref n_isThere, .ref n_size, .ref n_depth, .ref n_memory, .ref n_register, .ref n_mode, .ref n_pc, .ref n_base, .ref n_bound, .ref n_timer, .ref n_ranOut, .ref n_halted, .ref n_steps, .ref n_outs, .ref n_output, .ref n_waits, .ref n_typed, .ref n_disk, .ref n_wants, .int zat, .int zend, .int zline, .ref n_labelFrom, .ref n_labelSize, .ref n_labelAddress, .int zlabels, .int zfault, .int zfaultLine, .int zisTold, .int zaddress, .ref n_made, .int zmissing, .int zgood, .int zvalue, .int zvalueFrom, .int zvalueSize, .int zme])), (n_isThere, .inl (E.2.1 3, 3, .inl zisThere)), (n_size, .inl (E.2.1 0, 3, .inl zsize)), (n_depth, .inl (E.2.1 0, 3, .inl zdepth)), (n_memory, .inl (E.2.1 0, 3072, .inl zmemory)), (n_register, .inl (E.2.1 0, 24, .inl zregister)), (n_mode, .inl (E.2.1 0, 3, .inl (upd zmode x1.toNatClampNeg 0))), (n_pc, .inl (E.2.1 0, 3, .inl (upd zpc x1.toNatClampNeg 16))), (n_base, .inl (E.2.1 0, 3, .inl (upd zbase x1.toNatClampNeg 0))), (n_bound, .inl (E.2.1 0, 3, .inl (upd zbound x1.toNatClampNeg x2))), (n_timer, .inl (E.2.1 0, 3, .inl (upd ztimer x1.toNatClampNeg 0))), (n_ranOut, .inl (E.2.1 3, 3, .inl (upd zranOut x1.toNatClampNeg (vp_nar .boolean 0)))), (n_halted, .inl (E.2.1 3, 3, .inl (upd zhalted x1.toNatClampNeg (vp_nar .boolean 0)))), (n_steps, .inl (E.2.1 0, 3, .inl (upd zsteps x1.toNatClampNeg 0))), (n_outs, .inl (E.2.1 0, 3, .inl zouts)), (n_waits, .inl (E.2.1 0, 3, .inl zwaits)), (n_disk, .inl (E.2.1 0, 384, .inl zdisk)), (n_made, .inl (E.2.1 0, 1024, .inl zmade))]) rfl ?_
      clear hP hD hS
      intro H locs hP hD hS
      refine lv_aload_n J.1 J.2.1 d_MD_begin_175 rfl (lv_at hl 0 rfl) ?_
      refine jg J hJ hP 0 rfl rfl i_MD 15 (by decide) gf_MD_62 rfl d_MD_begin_176 ?_
      refine lv_iload_n J.1 J.2.1 d_MD_begin_179 rfl (lv_at hl 1 rfl) ?_
      refine lv_iconst (v := 0) J.1 J.2.1 d_MD_begin_180 (by decide) ?_
      replace h := g_ck h
      obtain ⟨k_10, h⟩ := h
      refine jsi J hJ hP hD hS 14 rfl k_10 d_MD_begin_181 (WS' := [(n0, .inr (6, [.ref n_tape, .int ztaped, .ref n_isThere, .ref n_size, .ref n_depth, .ref n_memory, .ref n_register, .ref n_mode, .ref n_pc, .ref n_base, .ref n_bound, .ref n_timer, .ref n_ranOut, .ref n_halted, .ref n_steps, .ref n_outs, .ref n_output, .ref n_waits, .ref n_typed, .ref n_disk, .ref n_wants, .int zat, .int zend, .int zline, .ref n_labelFrom, .ref n_labelSize, .ref n_labelAddress, .int zlabels, .int zfault, .int zfaultLine, .int zisTold, .int zaddress, .ref n_made, .int zmissing, .int zgood, .int zvalue, .int zvalueFrom, .int zvalueSize, .int zme])), (n_isThere, .inl (E.2.1 3, 3, .inl zisThere)), (n_size, .inl (E.2.1 0, 3, .inl zsize)), (n_depth, .inl (E.2.1 0, 3, .inl zdepth)), (n_memory, .inl (E.2.1 0, 3072, .inl zmemory)), (n_register, .inl (E.2.1 0, 24, .inl zregister)), (n_mode, .inl (E.2.1 0, 3, .inl (upd zmode x1.toNatClampNeg 0))), (n_pc, .inl (E.2.1 0, 3, .inl (upd zpc x1.toNatClampNeg 16))), (n_base, .inl (E.2.1 0, 3, .inl (upd zbase x1.toNatClampNeg 0))), (n_bound, .inl (E.2.1 0, 3, .inl (upd zbound x1.toNatClampNeg x2))), (n_timer, .inl (E.2.1 0, 3, .inl (upd ztimer x1.toNatClampNeg 0))), (n_ranOut, .inl (E.2.1 3, 3, .inl (upd zranOut x1.toNatClampNeg (vp_nar .boolean 0)))), (n_halted, .inl (E.2.1 3, 3, .inl (upd zhalted x1.toNatClampNeg (vp_nar .boolean 0)))), (n_steps, .inl (E.2.1 0, 3, .inl (upd zsteps x1.toNatClampNeg 0))), (n_outs, .inl (E.2.1 0, 3, .inl (upd zouts x1.toNatClampNeg 0))), (n_waits, .inl (E.2.1 0, 3, .inl zwaits)), (n_disk, .inl (E.2.1 0, 384, .inl zdisk)), (n_made, .inl (E.2.1 0, 1024, .inl zmade))]) rfl ?_
      clear hP hD hS
      intro H locs hP hD hS
      refine lv_aload_n J.1 J.2.1 d_MD_begin_182 rfl (lv_at hl 0 rfl) ?_
      refine jg J hJ hP 0 rfl rfl i_MD 17 (by decide) gf_MD_68 rfl d_MD_begin_183 ?_
      refine lv_iload_n J.1 J.2.1 d_MD_begin_186 rfl (lv_at hl 1 rfl) ?_
      refine lv_iconst (v := 0) J.1 J.2.1 d_MD_begin_187 (by decide) ?_
      replace h := g_ck h
      obtain ⟨k_11, h⟩ := h
      refine jsi J hJ hP hD hS 15 rfl k_11 d_MD_begin_188 (WS' := [(n0, .inr (6, [.ref n_tape, .int ztaped, .ref n_isThere, .ref n_size, .ref n_depth, .ref n_memory, .ref n_register, .ref n_mode, .ref n_pc, .ref n_base, .ref n_bound, .ref n_timer, .ref n_ranOut, .ref n_halted, .ref n_steps, .ref n_outs, .ref n_output, .ref n_waits, .ref n_typed, .ref n_disk, .ref n_wants, .int zat, .int zend, .int zline, .ref n_labelFrom, .ref n_labelSize, .ref n_labelAddress, .int zlabels, .int zfault, .int zfaultLine, .int zisTold, .int zaddress, .ref n_made, .int zmissing, .int zgood, .int zvalue, .int zvalueFrom, .int zvalueSize, .int zme])), (n_isThere, .inl (E.2.1 3, 3, .inl zisThere)), (n_size, .inl (E.2.1 0, 3, .inl zsize)), (n_depth, .inl (E.2.1 0, 3, .inl zdepth)), (n_memory, .inl (E.2.1 0, 3072, .inl zmemory)), (n_register, .inl (E.2.1 0, 24, .inl zregister)), (n_mode, .inl (E.2.1 0, 3, .inl (upd zmode x1.toNatClampNeg 0))), (n_pc, .inl (E.2.1 0, 3, .inl (upd zpc x1.toNatClampNeg 16))), (n_base, .inl (E.2.1 0, 3, .inl (upd zbase x1.toNatClampNeg 0))), (n_bound, .inl (E.2.1 0, 3, .inl (upd zbound x1.toNatClampNeg x2))), (n_timer, .inl (E.2.1 0, 3, .inl (upd ztimer x1.toNatClampNeg 0))), (n_ranOut, .inl (E.2.1 3, 3, .inl (upd zranOut x1.toNatClampNeg (vp_nar .boolean 0)))), (n_halted, .inl (E.2.1 3, 3, .inl (upd zhalted x1.toNatClampNeg (vp_nar .boolean 0)))), (n_steps, .inl (E.2.1 0, 3, .inl (upd zsteps x1.toNatClampNeg 0))), (n_outs, .inl (E.2.1 0, 3, .inl (upd zouts x1.toNatClampNeg 0))), (n_waits, .inl (E.2.1 0, 3, .inl (upd zwaits x1.toNatClampNeg 0))), (n_disk, .inl (E.2.1 0, 384, .inl zdisk)), (n_made, .inl (E.2.1 0, 1024, .inl zmade))]) rfl ?_
      clear hP hD hS
      intro H locs hP hD hS
      have h := Option.some.inj h
      have e_0 := (Prod.mk.inj h).1
      have h := (Prod.mk.inj h).2
      have e_1 := (Prod.mk.inj h).1
      have h := (Prod.mk.inj h).2
      have e_2 := (Prod.mk.inj h).1
      have h := (Prod.mk.inj h).2
      have e_3 := (Prod.mk.inj h).1
      have h := (Prod.mk.inj h).2
      have e_4 := (Prod.mk.inj h).1
      have h := (Prod.mk.inj h).2
      have e_5 := (Prod.mk.inj h).1
      have h := (Prod.mk.inj h).2
      have e_6 := (Prod.mk.inj h).1
      have h := (Prod.mk.inj h).2
      have e_7 := (Prod.mk.inj h).1
      have h := (Prod.mk.inj h).2
      have e_8 := (Prod.mk.inj h).1
      have h := (Prod.mk.inj h).2
      have e_9 := (Prod.mk.inj h).1
      have h := (Prod.mk.inj h).2
      have e_10 := (Prod.mk.inj h).1
      have h := (Prod.mk.inj h).2
      have e_11 := (Prod.mk.inj h).1
      have h := (Prod.mk.inj h).2
      have e_12 := (Prod.mk.inj h).1
      have h := (Prod.mk.inj h).2
      have e_13 := (Prod.mk.inj h).1
      have h := (Prod.mk.inj h).2
      have e_14 := (Prod.mk.inj h).1
      have h := (Prod.mk.inj h).2
      rw [← e_0, ← e_1, ← e_2, ← e_3, ← e_4, ← e_5, ← e_6, ← e_7, ← e_8, ← e_9, ← e_10, ← e_11, ← e_12, ← e_13, ← e_14, ← h]
      exact jr_v J hS hP hD d_MD_begin_189
    · replace h := g_f c_1 h
      refine lv_aload_n J.1 J.2.1 d_MD_begin_98 rfl (lv_at hl 0 rfl) ?_
      refine jg J hJ hP 0 rfl rfl i_MD 19 (by decide) gf_MD_74 rfl d_MD_begin_99 ?_
      refine lv_sipush (v := 128) J.1 J.2.1 d_MD_begin_102 (by decide) ?_
      refine lv_iload_n J.1 J.2.1 d_MD_begin_105 rfl (lv_at hl 1 rfl) ?_
      refine lv_imul J.1 J.2.1 d_MD_begin_106 ?_
      refine lv_iload J.1 J.2.1 d_MD_begin_107 (lv_at hl 3 rfl) ?_
      refine lv_iadd J.1 J.2.1 d_MD_begin_109 ?_
      refine lv_iconst (v := 0) J.1 J.2.1 d_MD_begin_110 (by decide) ?_
      replace h := g_ck h
      obtain ⟨k_12, h⟩ := h
      refine jsi J hJ hP hD hS 16 rfl k_12 d_MD_begin_111 (WS' := [(n0, .inr (6, [.ref n_tape, .int ztaped, .ref n_isThere, .ref n_size, .ref n_depth, .ref n_memory, .ref n_register, .ref n_mode, .ref n_pc, .ref n_base, .ref n_bound, .ref n_timer, .ref n_ranOut, .ref n_halted, .ref n_steps, .ref n_outs, .ref n_output, .ref n_waits, .ref n_typed, .ref n_disk, .ref n_wants, .int zat, .int zend, .int zline, .ref n_labelFrom, .ref n_labelSize, .ref n_labelAddress, .int zlabels, .int zfault, .int zfaultLine, .int zisTold, .int zaddress, .ref n_made, .int zmissing, .int zgood, .int zvalue, .int zvalueFrom, .int zvalueSize, .int zme])), (n_isThere, .inl (E.2.1 3, 3, .inl zisThere)), (n_size, .inl (E.2.1 0, 3, .inl zsize)), (n_depth, .inl (E.2.1 0, 3, .inl zdepth)), (n_memory, .inl (E.2.1 0, 3072, .inl zmemory)), (n_register, .inl (E.2.1 0, 24, .inl zregister)), (n_mode, .inl (E.2.1 0, 3, .inl zmode)), (n_pc, .inl (E.2.1 0, 3, .inl zpc)), (n_base, .inl (E.2.1 0, 3, .inl zbase)), (n_bound, .inl (E.2.1 0, 3, .inl zbound)), (n_timer, .inl (E.2.1 0, 3, .inl ztimer)), (n_ranOut, .inl (E.2.1 3, 3, .inl zranOut)), (n_halted, .inl (E.2.1 3, 3, .inl zhalted)), (n_steps, .inl (E.2.1 0, 3, .inl zsteps)), (n_outs, .inl (E.2.1 0, 3, .inl zouts)), (n_waits, .inl (E.2.1 0, 3, .inl zwaits)), (n_disk, .inl (E.2.1 0, 384, .inl (upd zdisk ((128 * x1) + x4).toNatClampNeg 0))), (n_made, .inl (E.2.1 0, 1024, .inl zmade))]) rfl ?_
      clear hP hD hS
      intro H locs hP hD hS
      refine lv_iinc (v := (x4 + 1)) (lv' := [(4, .int (x4 + 1)), (0, .ref n0), (1, .int x1), (2, .int x2)]) J.1 J.2.1 d_MD_begin_112 hl (k := 3) rfl rfl (by decide) rfl ?_
      clear hl
      intro ls hl
      refine lv_goto (tgt := 90) J.1 J.2.1 d_MD_begin_115 (by decide) ?_
      exact ih _ _ _ _ _ _ _ _ _ _ _ _ _ _ _ _ _ _ _ _ _ _ _ _ _ _ _ _ _ _ _ _ _ _ _ _ _ _ h hP hD hS (lv_sub hl [1, 2, 3, 0] rfl)
set_option maxHeartbeats 4000000 in
set_option maxRecDepth 100000 in
theorem kb_MD_begin_61 {p : Program} {l : Launch} {e : Env} {s : State} {m : MethodId} {below : List Frame} {meth : Method} {c : Code} {A : Nat → Prop} {E : jz_E} {n0 n_base n_bound n_depth n_disk n_halted n_isThere n_labelAddress n_labelFrom n_labelSize n_made n_memory n_mode n_output n_outs n_pc n_ranOut n_register n_size n_steps n_tape n_timer n_typed n_waits n_wants : Nat} {p1 : Int32} {p2 : Int32} {p3 : Int32} {o_zisThere : Nat → Int32} {o_zsize : Nat → Int32} {o_zdepth : Nat → Int32} {o_zmemory : Nat → Int32} {o_zregister : Nat → Int32} {o_zmode : Nat → Int32} {o_zpc : Nat → Int32} {o_zbase : Nat → Int32} {o_zbound : Nat → Int32} {o_ztimer : Nat → Int32} {o_zranOut : Nat → Int32} {o_zhalted : Nat → Int32} {o_zsteps : Nat → Int32} {o_zouts : Nat → Int32} {o_zwaits : Nat → Int32} {o_zdisk : Nat → Int32} (J : JC p s m ([.ref n0, .int p1, .int p2, .int p3] : List Value).toArray meth c c_MD_begin 5 none y_MD_begin.cls) (hJ : jE E s) (hA : ∀ q : Nat, s.heap.size ≤ q → A q) (hZ : jz_ok E A s s.heap) : ∀ (n : Nat) (ztaped : Int32) (zat : Int32) (zend : Int32) (zline : Int32) (zlabels : Int32) (zfault : Int32) (zfaultLine : Int32) (zisTold : Int32) (zaddress : Int32) (zmissing : Int32) (zgood : Int32) (zvalue : Int32) (zvalueFrom : Int32) (zvalueSize : Int32) (zme : Int32) (zisThere : Nat → Int32) (zsize : Nat → Int32) (zdepth : Nat → Int32) (zmemory : Nat → Int32) (zregister : Nat → Int32) (zmode : Nat → Int32) (zpc : Nat → Int32) (zbase : Nat → Int32) (zbound : Nat → Int32) (ztimer : Nat → Int32) (zranOut : Nat → Int32) (zhalted : Nat → Int32) (zsteps : Nat → Int32) (zouts : Nat → Int32) (zwaits : Nat → Int32) (zdisk : Nat → Int32) (zmade : Nat → Int32) (x1 : Int32) (x2 : Int32) (x4 : Int32) (H : Heap) (locs : List Loc) (ls : Array Slot), b_MD_begin_61 n zisThere zsize zdepth zmemory zregister zmode zpc zbase zbound ztimer zranOut zhalted zsteps zouts zwaits zdisk x1 x2 x4 = some (o_zisThere, o_zsize, o_zdepth, o_zmemory, o_zregister, o_zmode, o_zpc, o_zbase, o_zbound, o_ztimer, o_zranOut, o_zhalted, o_zsteps, o_zouts, o_zwaits, o_zdisk) → va_P E.1 classes [(n0, .inr (6, [.ref n_tape, .int ztaped, .ref n_isThere, .ref n_size, .ref n_depth, .ref n_memory, .ref n_register, .ref n_mode, .ref n_pc, .ref n_base, .ref n_bound, .ref n_timer, .ref n_ranOut, .ref n_halted, .ref n_steps, .ref n_outs, .ref n_output, .ref n_waits, .ref n_typed, .ref n_disk, .ref n_wants, .int zat, .int zend, .int zline, .ref n_labelFrom, .ref n_labelSize, .ref n_labelAddress, .int zlabels, .int zfault, .int zfaultLine, .int zisTold, .int zaddress, .ref n_made, .int zmissing, .int zgood, .int zvalue, .int zvalueFrom, .int zvalueSize, .int zme])), (n_isThere, .inl (E.2.1 3, 3, .inl zisThere)), (n_size, .inl (E.2.1 0, 3, .inl zsize)), (n_depth, .inl (E.2.1 0, 3, .inl zdepth)), (n_memory, .inl (E.2.1 0, 3072, .inl zmemory)), (n_register, .inl (E.2.1 0, 24, .inl zregister)), (n_mode, .inl (E.2.1 0, 3, .inl zmode)), (n_pc, .inl (E.2.1 0, 3, .inl zpc)), (n_base, .inl (E.2.1 0, 3, .inl zbase)), (n_bound, .inl (E.2.1 0, 3, .inl zbound)), (n_timer, .inl (E.2.1 0, 3, .inl ztimer)), (n_ranOut, .inl (E.2.1 3, 3, .inl zranOut)), (n_halted, .inl (E.2.1 3, 3, .inl zhalted)), (n_steps, .inl (E.2.1 0, 3, .inl zsteps)), (n_outs, .inl (E.2.1 0, 3, .inl zouts)), (n_waits, .inl (E.2.1 0, 3, .inl zwaits)), (n_disk, .inl (E.2.1 0, 384, .inl zdisk)), (n_made, .inl (E.2.1 0, 1024, .inl zmade))] H → va_D A [(n0, .inr (6, [.ref n_tape, .int ztaped, .ref n_isThere, .ref n_size, .ref n_depth, .ref n_memory, .ref n_register, .ref n_mode, .ref n_pc, .ref n_base, .ref n_bound, .ref n_timer, .ref n_ranOut, .ref n_halted, .ref n_steps, .ref n_outs, .ref n_output, .ref n_waits, .ref n_typed, .ref n_disk, .ref n_wants, .int zat, .int zend, .int zline, .ref n_labelFrom, .ref n_labelSize, .ref n_labelAddress, .int zlabels, .int zfault, .int zfaultLine, .int zisTold, .int zaddress, .ref n_made, .int zmissing, .int zgood, .int zvalue, .int zvalueFrom, .int zvalueSize, .int zme])), (n_isThere, .inl (E.2.1 3, 3, .inl zisThere)), (n_size, .inl (E.2.1 0, 3, .inl zsize)), (n_depth, .inl (E.2.1 0, 3, .inl zdepth)), (n_memory, .inl (E.2.1 0, 3072, .inl zmemory)), (n_register, .inl (E.2.1 0, 24, .inl zregister)), (n_mode, .inl (E.2.1 0, 3, .inl zmode)), (n_pc, .inl (E.2.1 0, 3, .inl zpc)), (n_base, .inl (E.2.1 0, 3, .inl zbase)), (n_bound, .inl (E.2.1 0, 3, .inl zbound)), (n_timer, .inl (E.2.1 0, 3, .inl ztimer)), (n_ranOut, .inl (E.2.1 3, 3, .inl zranOut)), (n_halted, .inl (E.2.1 3, 3, .inl zhalted)), (n_steps, .inl (E.2.1 0, 3, .inl zsteps)), (n_outs, .inl (E.2.1 0, 3, .inl zouts)), (n_waits, .inl (E.2.1 0, 3, .inl zwaits)), (n_disk, .inl (E.2.1 0, 384, .inl zdisk)), (n_made, .inl (E.2.1 0, 1024, .inl zmade))] → va_S A s.heap H locs → lv_has ls 5 [(0, .ref n0), (1, .int x1), (2, .int x2), (4, .int x4)] → W p l e ({ frames := 0, cells := 0, slots := 0, locals := 0 }) s m ([.ref n0, .int p1, .int p2, .int p3] : List Value).toArray below meth c H locs 0 0 (MQ below (va_Qv (fun (u : va_W) => u = [(n0, .inr (6, [.ref n_tape, .int ztaped, .ref n_isThere, .ref n_size, .ref n_depth, .ref n_memory, .ref n_register, .ref n_mode, .ref n_pc, .ref n_base, .ref n_bound, .ref n_timer, .ref n_ranOut, .ref n_halted, .ref n_steps, .ref n_outs, .ref n_output, .ref n_waits, .ref n_typed, .ref n_disk, .ref n_wants, .int zat, .int zend, .int zline, .ref n_labelFrom, .ref n_labelSize, .ref n_labelAddress, .int zlabels, .int zfault, .int zfaultLine, .int zisTold, .int zaddress, .ref n_made, .int zmissing, .int zgood, .int zvalue, .int zvalueFrom, .int zvalueSize, .int zme])), (n_isThere, .inl (E.2.1 3, 3, .inl o_zisThere)), (n_size, .inl (E.2.1 0, 3, .inl o_zsize)), (n_depth, .inl (E.2.1 0, 3, .inl o_zdepth)), (n_memory, .inl (E.2.1 0, 3072, .inl o_zmemory)), (n_register, .inl (E.2.1 0, 24, .inl o_zregister)), (n_mode, .inl (E.2.1 0, 3, .inl o_zmode)), (n_pc, .inl (E.2.1 0, 3, .inl o_zpc)), (n_base, .inl (E.2.1 0, 3, .inl o_zbase)), (n_bound, .inl (E.2.1 0, 3, .inl o_zbound)), (n_timer, .inl (E.2.1 0, 3, .inl o_ztimer)), (n_ranOut, .inl (E.2.1 3, 3, .inl o_zranOut)), (n_halted, .inl (E.2.1 3, 3, .inl o_zhalted)), (n_steps, .inl (E.2.1 0, 3, .inl o_zsteps)), (n_outs, .inl (E.2.1 0, 3, .inl o_zouts)), (n_waits, .inl (E.2.1 0, 3, .inl o_zwaits)), (n_disk, .inl (E.2.1 0, 384, .inl o_zdisk)), (n_made, .inl (E.2.1 0, 1024, .inl zmade))]) (BW E A) A) ([.ref n0, .int p1, .int p2, .int p3] : List Value).toArray s 0 0 A) (F0 m 61 ls []) := by
  intro n
  induction n with
  | zero => intro ztaped zat zend zline zlabels zfault zfaultLine zisTold zaddress zmissing zgood zvalue zvalueFrom zvalueSize zme zisThere zsize zdepth zmemory zregister zmode zpc zbase zbound ztimer zranOut zhalted zsteps zouts zwaits zdisk zmade x1 x2 x4 H locs ls h; cases h
  | succ n ih =>
    intro ztaped zat zend zline zlabels zfault zfaultLine zisTold zaddress zmissing zgood zvalue zvalueFrom zvalueSize zme zisThere zsize zdepth zmemory zregister zmode zpc zbase zbound ztimer zranOut zhalted zsteps zouts zwaits zdisk zmade x1 x2 x4 H locs ls h hP hD hS hl
    rw [b_MD_begin_61] at h
    refine lv_iload J.1 J.2.1 d_MD_begin_61 (lv_at hl 3 rfl) ?_
    refine lv_bipush (v := 8) J.1 J.2.1 d_MD_begin_63 (by decide) ?_
    refine lv_icmp_ge (tgt := 87) J.1 J.2.1 d_MD_begin_65 (by decide) (fun c_13 => ?_) (fun c_13 => ?_)
    · replace h := g_t c_13 h
      refine lv_iconst (v := 0) J.1 J.2.1 d_MD_begin_87 (by decide) ?_
      refine lv_istore (lv' := [(4, .int 0), (0, .ref n0), (1, .int x1), (2, .int x2)]) J.1 J.2.1 d_MD_begin_88 hl (by decide) rfl ?_
      clear hl
      intro ls hl
      exact kb_MD_begin_90 J hJ hA hZ _ _ _ _ _ _ _ _ _ _ _ _ _ _ _ _ _ _ _ _ _ _ _ _ _ _ _ _ _ _ _ _ _ _ _ _ _ _ _ h hP hD hS (lv_sub hl [1, 2, 3, 0] rfl)
    · replace h := g_f c_13 h
      refine lv_aload_n J.1 J.2.1 d_MD_begin_68 rfl (lv_at hl 0 rfl) ?_
      refine jg J hJ hP 0 rfl rfl i_MD 6 (by decide) gf_MD_35 rfl d_MD_begin_69 ?_
      refine lv_bipush (v := 8) J.1 J.2.1 d_MD_begin_72 (by decide) ?_
      refine lv_iload_n J.1 J.2.1 d_MD_begin_74 rfl (lv_at hl 1 rfl) ?_
      refine lv_imul J.1 J.2.1 d_MD_begin_75 ?_
      refine lv_iload J.1 J.2.1 d_MD_begin_76 (lv_at hl 3 rfl) ?_
      refine lv_iadd J.1 J.2.1 d_MD_begin_78 ?_
      refine lv_iconst (v := 0) J.1 J.2.1 d_MD_begin_79 (by decide) ?_
      replace h := g_ck h
      obtain ⟨k_14, h⟩ := h
      refine jsi J hJ hP hD hS 5 rfl k_14 d_MD_begin_80 (WS' := [(n0, .inr (6, [.ref n_tape, .int ztaped, .ref n_isThere, .ref n_size, .ref n_depth, .ref n_memory, .ref n_register, .ref n_mode, .ref n_pc, .ref n_base, .ref n_bound, .ref n_timer, .ref n_ranOut, .ref n_halted, .ref n_steps, .ref n_outs, .ref n_output, .ref n_waits, .ref n_typed, .ref n_disk, .ref n_wants, .int zat, .int zend, .int zline, .ref n_labelFrom, .ref n_labelSize, .ref n_labelAddress, .int zlabels, .int zfault, .int zfaultLine, .int zisTold, .int zaddress, .ref n_made, .int zmissing, .int zgood, .int zvalue, .int zvalueFrom, .int zvalueSize, .int zme])), (n_isThere, .inl (E.2.1 3, 3, .inl zisThere)), (n_size, .inl (E.2.1 0, 3, .inl zsize)), (n_depth, .inl (E.2.1 0, 3, .inl zdepth)), (n_memory, .inl (E.2.1 0, 3072, .inl zmemory)), (n_register, .inl (E.2.1 0, 24, .inl (upd zregister ((8 * x1) + x4).toNatClampNeg 0))), (n_mode, .inl (E.2.1 0, 3, .inl zmode)), (n_pc, .inl (E.2.1 0, 3, .inl zpc)), (n_base, .inl (E.2.1 0, 3, .inl zbase)), (n_bound, .inl (E.2.1 0, 3, .inl zbound)), (n_timer, .inl (E.2.1 0, 3, .inl ztimer)), (n_ranOut, .inl (E.2.1 3, 3, .inl zranOut)), (n_halted, .inl (E.2.1 3, 3, .inl zhalted)), (n_steps, .inl (E.2.1 0, 3, .inl zsteps)), (n_outs, .inl (E.2.1 0, 3, .inl zouts)), (n_waits, .inl (E.2.1 0, 3, .inl zwaits)), (n_disk, .inl (E.2.1 0, 384, .inl zdisk)), (n_made, .inl (E.2.1 0, 1024, .inl zmade))]) rfl ?_
      clear hP hD hS
      intro H locs hP hD hS
      refine lv_iinc (v := (x4 + 1)) (lv' := [(4, .int (x4 + 1)), (0, .ref n0), (1, .int x1), (2, .int x2)]) J.1 J.2.1 d_MD_begin_81 hl (k := 3) rfl rfl (by decide) rfl ?_
      clear hl
      intro ls hl
      refine lv_goto (tgt := 61) J.1 J.2.1 d_MD_begin_84 (by decide) ?_
      exact ih _ _ _ _ _ _ _ _ _ _ _ _ _ _ _ _ _ _ _ _ _ _ _ _ _ _ _ _ _ _ _ _ _ _ _ _ _ _ h hP hD hS (lv_sub hl [1, 2, 3, 0] rfl)
set_option maxHeartbeats 4000000 in
set_option maxRecDepth 100000 in
theorem kb_MD_begin_24 {p : Program} {l : Launch} {e : Env} {s : State} {m : MethodId} {below : List Frame} {meth : Method} {c : Code} {A : Nat → Prop} {E : jz_E} {n0 n_base n_bound n_depth n_disk n_halted n_isThere n_labelAddress n_labelFrom n_labelSize n_made n_memory n_mode n_output n_outs n_pc n_ranOut n_register n_size n_steps n_tape n_timer n_typed n_waits n_wants : Nat} {p1 : Int32} {p2 : Int32} {p3 : Int32} {o_zisThere : Nat → Int32} {o_zsize : Nat → Int32} {o_zdepth : Nat → Int32} {o_zmemory : Nat → Int32} {o_zregister : Nat → Int32} {o_zmode : Nat → Int32} {o_zpc : Nat → Int32} {o_zbase : Nat → Int32} {o_zbound : Nat → Int32} {o_ztimer : Nat → Int32} {o_zranOut : Nat → Int32} {o_zhalted : Nat → Int32} {o_zsteps : Nat → Int32} {o_zouts : Nat → Int32} {o_zwaits : Nat → Int32} {o_zdisk : Nat → Int32} (J : JC p s m ([.ref n0, .int p1, .int p2, .int p3] : List Value).toArray meth c c_MD_begin 5 none y_MD_begin.cls) (hJ : jE E s) (hA : ∀ q : Nat, s.heap.size ≤ q → A q) (hZ : jz_ok E A s s.heap) : ∀ (n : Nat) (ztaped : Int32) (zat : Int32) (zend : Int32) (zline : Int32) (zlabels : Int32) (zfault : Int32) (zfaultLine : Int32) (zisTold : Int32) (zaddress : Int32) (zmissing : Int32) (zgood : Int32) (zvalue : Int32) (zvalueFrom : Int32) (zvalueSize : Int32) (zme : Int32) (zisThere : Nat → Int32) (zsize : Nat → Int32) (zdepth : Nat → Int32) (zmemory : Nat → Int32) (zregister : Nat → Int32) (zmode : Nat → Int32) (zpc : Nat → Int32) (zbase : Nat → Int32) (zbound : Nat → Int32) (ztimer : Nat → Int32) (zranOut : Nat → Int32) (zhalted : Nat → Int32) (zsteps : Nat → Int32) (zouts : Nat → Int32) (zwaits : Nat → Int32) (zdisk : Nat → Int32) (zmade : Nat → Int32) (x1 : Int32) (x2 : Int32) (x4 : Int32) (H : Heap) (locs : List Loc) (ls : Array Slot), b_MD_begin_24 n zisThere zsize zdepth zmemory zregister zmode zpc zbase zbound ztimer zranOut zhalted zsteps zouts zwaits zdisk zmade x1 x2 x4 = some (o_zisThere, o_zsize, o_zdepth, o_zmemory, o_zregister, o_zmode, o_zpc, o_zbase, o_zbound, o_ztimer, o_zranOut, o_zhalted, o_zsteps, o_zouts, o_zwaits, o_zdisk) → va_P E.1 classes [(n0, .inr (6, [.ref n_tape, .int ztaped, .ref n_isThere, .ref n_size, .ref n_depth, .ref n_memory, .ref n_register, .ref n_mode, .ref n_pc, .ref n_base, .ref n_bound, .ref n_timer, .ref n_ranOut, .ref n_halted, .ref n_steps, .ref n_outs, .ref n_output, .ref n_waits, .ref n_typed, .ref n_disk, .ref n_wants, .int zat, .int zend, .int zline, .ref n_labelFrom, .ref n_labelSize, .ref n_labelAddress, .int zlabels, .int zfault, .int zfaultLine, .int zisTold, .int zaddress, .ref n_made, .int zmissing, .int zgood, .int zvalue, .int zvalueFrom, .int zvalueSize, .int zme])), (n_isThere, .inl (E.2.1 3, 3, .inl zisThere)), (n_size, .inl (E.2.1 0, 3, .inl zsize)), (n_depth, .inl (E.2.1 0, 3, .inl zdepth)), (n_memory, .inl (E.2.1 0, 3072, .inl zmemory)), (n_register, .inl (E.2.1 0, 24, .inl zregister)), (n_mode, .inl (E.2.1 0, 3, .inl zmode)), (n_pc, .inl (E.2.1 0, 3, .inl zpc)), (n_base, .inl (E.2.1 0, 3, .inl zbase)), (n_bound, .inl (E.2.1 0, 3, .inl zbound)), (n_timer, .inl (E.2.1 0, 3, .inl ztimer)), (n_ranOut, .inl (E.2.1 3, 3, .inl zranOut)), (n_halted, .inl (E.2.1 3, 3, .inl zhalted)), (n_steps, .inl (E.2.1 0, 3, .inl zsteps)), (n_outs, .inl (E.2.1 0, 3, .inl zouts)), (n_waits, .inl (E.2.1 0, 3, .inl zwaits)), (n_disk, .inl (E.2.1 0, 384, .inl zdisk)), (n_made, .inl (E.2.1 0, 1024, .inl zmade))] H → va_D A [(n0, .inr (6, [.ref n_tape, .int ztaped, .ref n_isThere, .ref n_size, .ref n_depth, .ref n_memory, .ref n_register, .ref n_mode, .ref n_pc, .ref n_base, .ref n_bound, .ref n_timer, .ref n_ranOut, .ref n_halted, .ref n_steps, .ref n_outs, .ref n_output, .ref n_waits, .ref n_typed, .ref n_disk, .ref n_wants, .int zat, .int zend, .int zline, .ref n_labelFrom, .ref n_labelSize, .ref n_labelAddress, .int zlabels, .int zfault, .int zfaultLine, .int zisTold, .int zaddress, .ref n_made, .int zmissing, .int zgood, .int zvalue, .int zvalueFrom, .int zvalueSize, .int zme])), (n_isThere, .inl (E.2.1 3, 3, .inl zisThere)), (n_size, .inl (E.2.1 0, 3, .inl zsize)), (n_depth, .inl (E.2.1 0, 3, .inl zdepth)), (n_memory, .inl (E.2.1 0, 3072, .inl zmemory)), (n_register, .inl (E.2.1 0, 24, .inl zregister)), (n_mode, .inl (E.2.1 0, 3, .inl zmode)), (n_pc, .inl (E.2.1 0, 3, .inl zpc)), (n_base, .inl (E.2.1 0, 3, .inl zbase)), (n_bound, .inl (E.2.1 0, 3, .inl zbound)), (n_timer, .inl (E.2.1 0, 3, .inl ztimer)), (n_ranOut, .inl (E.2.1 3, 3, .inl zranOut)), (n_halted, .inl (E.2.1 3, 3, .inl zhalted)), (n_steps, .inl (E.2.1 0, 3, .inl zsteps)), (n_outs, .inl (E.2.1 0, 3, .inl zouts)), (n_waits, .inl (E.2.1 0, 3, .inl zwaits)), (n_disk, .inl (E.2.1 0, 384, .inl zdisk)), (n_made, .inl (E.2.1 0, 1024, .inl zmade))] → va_S A s.heap H locs → lv_has ls 5 [(0, .ref n0), (1, .int x1), (2, .int x2), (4, .int x4)] → W p l e ({ frames := 0, cells := 0, slots := 0, locals := 0 }) s m ([.ref n0, .int p1, .int p2, .int p3] : List Value).toArray below meth c H locs 0 0 (MQ below (va_Qv (fun (u : va_W) => u = [(n0, .inr (6, [.ref n_tape, .int ztaped, .ref n_isThere, .ref n_size, .ref n_depth, .ref n_memory, .ref n_register, .ref n_mode, .ref n_pc, .ref n_base, .ref n_bound, .ref n_timer, .ref n_ranOut, .ref n_halted, .ref n_steps, .ref n_outs, .ref n_output, .ref n_waits, .ref n_typed, .ref n_disk, .ref n_wants, .int zat, .int zend, .int zline, .ref n_labelFrom, .ref n_labelSize, .ref n_labelAddress, .int zlabels, .int zfault, .int zfaultLine, .int zisTold, .int zaddress, .ref n_made, .int zmissing, .int zgood, .int zvalue, .int zvalueFrom, .int zvalueSize, .int zme])), (n_isThere, .inl (E.2.1 3, 3, .inl o_zisThere)), (n_size, .inl (E.2.1 0, 3, .inl o_zsize)), (n_depth, .inl (E.2.1 0, 3, .inl o_zdepth)), (n_memory, .inl (E.2.1 0, 3072, .inl o_zmemory)), (n_register, .inl (E.2.1 0, 24, .inl o_zregister)), (n_mode, .inl (E.2.1 0, 3, .inl o_zmode)), (n_pc, .inl (E.2.1 0, 3, .inl o_zpc)), (n_base, .inl (E.2.1 0, 3, .inl o_zbase)), (n_bound, .inl (E.2.1 0, 3, .inl o_zbound)), (n_timer, .inl (E.2.1 0, 3, .inl o_ztimer)), (n_ranOut, .inl (E.2.1 3, 3, .inl o_zranOut)), (n_halted, .inl (E.2.1 3, 3, .inl o_zhalted)), (n_steps, .inl (E.2.1 0, 3, .inl o_zsteps)), (n_outs, .inl (E.2.1 0, 3, .inl o_zouts)), (n_waits, .inl (E.2.1 0, 3, .inl o_zwaits)), (n_disk, .inl (E.2.1 0, 384, .inl o_zdisk)), (n_made, .inl (E.2.1 0, 1024, .inl zmade))]) (BW E A) A) ([.ref n0, .int p1, .int p2, .int p3] : List Value).toArray s 0 0 A) (F0 m 24 ls []) := by
  intro n
  induction n with
  | zero => intro ztaped zat zend zline zlabels zfault zfaultLine zisTold zaddress zmissing zgood zvalue zvalueFrom zvalueSize zme zisThere zsize zdepth zmemory zregister zmode zpc zbase zbound ztimer zranOut zhalted zsteps zouts zwaits zdisk zmade x1 x2 x4 H locs ls h; cases h
  | succ n ih =>
    intro ztaped zat zend zline zlabels zfault zfaultLine zisTold zaddress zmissing zgood zvalue zvalueFrom zvalueSize zme zisThere zsize zdepth zmemory zregister zmode zpc zbase zbound ztimer zranOut zhalted zsteps zouts zwaits zdisk zmade x1 x2 x4 H locs ls h hP hD hS hl
    rw [b_MD_begin_24] at h
    refine lv_iload J.1 J.2.1 d_MD_begin_24 (lv_at hl 3 rfl) ?_
    refine lv_sipush (v := 1024) J.1 J.2.1 d_MD_begin_26 (by decide) ?_
    refine lv_icmp_ge (tgt := 58) J.1 J.2.1 d_MD_begin_29 (by decide) (fun c_15 => ?_) (fun c_15 => ?_)
    · replace h := g_t c_15 h
      refine lv_iconst (v := 0) J.1 J.2.1 d_MD_begin_58 (by decide) ?_
      refine lv_istore (lv' := [(4, .int 0), (0, .ref n0), (1, .int x1), (2, .int x2)]) J.1 J.2.1 d_MD_begin_59 hl (by decide) rfl ?_
      clear hl
      intro ls hl
      exact kb_MD_begin_61 J hJ hA hZ _ _ _ _ _ _ _ _ _ _ _ _ _ _ _ _ _ _ _ _ _ _ _ _ _ _ _ _ _ _ _ _ _ _ _ _ _ _ _ h hP hD hS (lv_sub hl [1, 2, 3, 0] rfl)
    · replace h := g_f c_15 h
      refine lv_aload_n J.1 J.2.1 d_MD_begin_32 rfl (lv_at hl 0 rfl) ?_
      refine jg J hJ hP 0 rfl rfl i_MD 5 (by decide) gf_MD_32 rfl d_MD_begin_33 ?_
      refine lv_sipush (v := 1024) J.1 J.2.1 d_MD_begin_36 (by decide) ?_
      refine lv_iload_n J.1 J.2.1 d_MD_begin_39 rfl (lv_at hl 1 rfl) ?_
      refine lv_imul J.1 J.2.1 d_MD_begin_40 ?_
      refine lv_iload J.1 J.2.1 d_MD_begin_41 (lv_at hl 3 rfl) ?_
      refine lv_iadd J.1 J.2.1 d_MD_begin_43 ?_
      refine lv_aload_n J.1 J.2.1 d_MD_begin_44 rfl (lv_at hl 0 rfl) ?_
      refine jg J hJ hP 0 rfl rfl i_MD 32 (by decide) gf_MD_89 rfl d_MD_begin_45 ?_
      refine lv_iload J.1 J.2.1 d_MD_begin_48 (lv_at hl 3 rfl) ?_
      replace h := g_ck h
      obtain ⟨k_16, h⟩ := h
      refine jai J hJ hP 17 rfl k_16 d_MD_begin_50 ?_
      replace h := g_ck h
      obtain ⟨k_17, h⟩ := h
      refine jsi J hJ hP hD hS 4 rfl k_17 d_MD_begin_51 (WS' := [(n0, .inr (6, [.ref n_tape, .int ztaped, .ref n_isThere, .ref n_size, .ref n_depth, .ref n_memory, .ref n_register, .ref n_mode, .ref n_pc, .ref n_base, .ref n_bound, .ref n_timer, .ref n_ranOut, .ref n_halted, .ref n_steps, .ref n_outs, .ref n_output, .ref n_waits, .ref n_typed, .ref n_disk, .ref n_wants, .int zat, .int zend, .int zline, .ref n_labelFrom, .ref n_labelSize, .ref n_labelAddress, .int zlabels, .int zfault, .int zfaultLine, .int zisTold, .int zaddress, .ref n_made, .int zmissing, .int zgood, .int zvalue, .int zvalueFrom, .int zvalueSize, .int zme])), (n_isThere, .inl (E.2.1 3, 3, .inl zisThere)), (n_size, .inl (E.2.1 0, 3, .inl zsize)), (n_depth, .inl (E.2.1 0, 3, .inl zdepth)), (n_memory, .inl (E.2.1 0, 3072, .inl (upd zmemory ((1024 * x1) + x4).toNatClampNeg (zmade x4.toNatClampNeg)))), (n_register, .inl (E.2.1 0, 24, .inl zregister)), (n_mode, .inl (E.2.1 0, 3, .inl zmode)), (n_pc, .inl (E.2.1 0, 3, .inl zpc)), (n_base, .inl (E.2.1 0, 3, .inl zbase)), (n_bound, .inl (E.2.1 0, 3, .inl zbound)), (n_timer, .inl (E.2.1 0, 3, .inl ztimer)), (n_ranOut, .inl (E.2.1 3, 3, .inl zranOut)), (n_halted, .inl (E.2.1 3, 3, .inl zhalted)), (n_steps, .inl (E.2.1 0, 3, .inl zsteps)), (n_outs, .inl (E.2.1 0, 3, .inl zouts)), (n_waits, .inl (E.2.1 0, 3, .inl zwaits)), (n_disk, .inl (E.2.1 0, 384, .inl zdisk)), (n_made, .inl (E.2.1 0, 1024, .inl zmade))]) rfl ?_
      clear hP hD hS
      intro H locs hP hD hS
      refine lv_iinc (v := (x4 + 1)) (lv' := [(4, .int (x4 + 1)), (0, .ref n0), (1, .int x1), (2, .int x2)]) J.1 J.2.1 d_MD_begin_52 hl (k := 3) rfl rfl (by decide) rfl ?_
      clear hl
      intro ls hl
      refine lv_goto (tgt := 24) J.1 J.2.1 d_MD_begin_55 (by decide) ?_
      exact ih _ _ _ _ _ _ _ _ _ _ _ _ _ _ _ _ _ _ _ _ _ _ _ _ _ _ _ _ _ _ _ _ _ _ _ _ _ _ h hP hD hS (lv_sub hl [1, 2, 3, 0] rfl)
set_option maxHeartbeats 4000000 in
set_option maxRecDepth 100000 in
theorem ct_MD_begin (l : Launch) (E : jz_E) (n0 n_base n_bound n_depth n_disk n_halted n_isThere n_labelAddress n_labelFrom n_labelSize n_made n_memory n_mode n_output n_outs n_pc n_ranOut n_register n_size n_steps n_tape n_timer n_typed n_waits n_wants : Nat) (sz : Nat) (ztaped : Int32) (zat : Int32) (zend : Int32) (zline : Int32) (zlabels : Int32) (zfault : Int32) (zfaultLine : Int32) (zisTold : Int32) (zaddress : Int32) (zmissing : Int32) (zgood : Int32) (zvalue : Int32) (zvalueFrom : Int32) (zvalueSize : Int32) (zme : Int32) (zisThere : Nat → Int32) (zsize : Nat → Int32) (zdepth : Nat → Int32) (zmemory : Nat → Int32) (zregister : Nat → Int32) (zmode : Nat → Int32) (zpc : Nat → Int32) (zbase : Nat → Int32) (zbound : Nat → Int32) (ztimer : Nat → Int32) (zranOut : Nat → Int32) (zhalted : Nat → Int32) (zsteps : Nat → Int32) (zouts : Nat → Int32) (zwaits : Nat → Int32) (zdisk : Nat → Int32) (zmade : Nat → Int32) (p1 : Int32) (p2 : Int32) (p3 : Int32) (o_zisThere : Nat → Int32) (o_zsize : Nat → Int32) (o_zdepth : Nat → Int32) (o_zmemory : Nat → Int32) (o_zregister : Nat → Int32) (o_zmode : Nat → Int32) (o_zpc : Nat → Int32) (o_zbase : Nat → Int32) (o_zbound : Nat → Int32) (o_ztimer : Nat → Int32) (o_zranOut : Nat → Int32) (o_zhalted : Nat → Int32) (o_zsteps : Nat → Int32) (o_zouts : Nat → Int32) (o_zwaits : Nat → Int32) (o_zdisk : Nat → Int32)  (h : f_MD_begin zisThere zsize zdepth zmemory zregister zmode zpc zbase zbound ztimer zranOut zhalted zsteps zouts zwaits zdisk zmade p1 p2 p3 = some (o_zisThere, o_zsize, o_zdepth, o_zmemory, o_zregister, o_zmode, o_zpc, o_zbase, o_zbound, o_ztimer, o_zranOut, o_zhalted, o_zsteps, o_zouts, o_zwaits, o_zdisk)) : CTv l E y_MD_begin c_MD_begin 5 none ({ frames := 0, cells := 0, slots := 0, locals := 0 }) [.ref n0, .int p1, .int p2, .int p3] [(n0, .inr (6, [.ref n_tape, .int ztaped, .ref n_isThere, .ref n_size, .ref n_depth, .ref n_memory, .ref n_register, .ref n_mode, .ref n_pc, .ref n_base, .ref n_bound, .ref n_timer, .ref n_ranOut, .ref n_halted, .ref n_steps, .ref n_outs, .ref n_output, .ref n_waits, .ref n_typed, .ref n_disk, .ref n_wants, .int zat, .int zend, .int zline, .ref n_labelFrom, .ref n_labelSize, .ref n_labelAddress, .int zlabels, .int zfault, .int zfaultLine, .int zisTold, .int zaddress, .ref n_made, .int zmissing, .int zgood, .int zvalue, .int zvalueFrom, .int zvalueSize, .int zme])), (n_isThere, .inl (E.2.1 3, 3, .inl zisThere)), (n_size, .inl (E.2.1 0, 3, .inl zsize)), (n_depth, .inl (E.2.1 0, 3, .inl zdepth)), (n_memory, .inl (E.2.1 0, 3072, .inl zmemory)), (n_register, .inl (E.2.1 0, 24, .inl zregister)), (n_mode, .inl (E.2.1 0, 3, .inl zmode)), (n_pc, .inl (E.2.1 0, 3, .inl zpc)), (n_base, .inl (E.2.1 0, 3, .inl zbase)), (n_bound, .inl (E.2.1 0, 3, .inl zbound)), (n_timer, .inl (E.2.1 0, 3, .inl ztimer)), (n_ranOut, .inl (E.2.1 3, 3, .inl zranOut)), (n_halted, .inl (E.2.1 3, 3, .inl zhalted)), (n_steps, .inl (E.2.1 0, 3, .inl zsteps)), (n_outs, .inl (E.2.1 0, 3, .inl zouts)), (n_waits, .inl (E.2.1 0, 3, .inl zwaits)), (n_disk, .inl (E.2.1 0, 384, .inl zdisk)), (n_made, .inl (E.2.1 0, 1024, .inl zmade))] sz [(n0, .inr (6, [.ref n_tape, .int ztaped, .ref n_isThere, .ref n_size, .ref n_depth, .ref n_memory, .ref n_register, .ref n_mode, .ref n_pc, .ref n_base, .ref n_bound, .ref n_timer, .ref n_ranOut, .ref n_halted, .ref n_steps, .ref n_outs, .ref n_output, .ref n_waits, .ref n_typed, .ref n_disk, .ref n_wants, .int zat, .int zend, .int zline, .ref n_labelFrom, .ref n_labelSize, .ref n_labelAddress, .int zlabels, .int zfault, .int zfaultLine, .int zisTold, .int zaddress, .ref n_made, .int zmissing, .int zgood, .int zvalue, .int zvalueFrom, .int zvalueSize, .int zme])), (n_isThere, .inl (E.2.1 3, 3, .inl o_zisThere)), (n_size, .inl (E.2.1 0, 3, .inl o_zsize)), (n_depth, .inl (E.2.1 0, 3, .inl o_zdepth)), (n_memory, .inl (E.2.1 0, 3072, .inl o_zmemory)), (n_register, .inl (E.2.1 0, 24, .inl o_zregister)), (n_mode, .inl (E.2.1 0, 3, .inl o_zmode)), (n_pc, .inl (E.2.1 0, 3, .inl o_zpc)), (n_base, .inl (E.2.1 0, 3, .inl o_zbase)), (n_bound, .inl (E.2.1 0, 3, .inl o_zbound)), (n_timer, .inl (E.2.1 0, 3, .inl o_ztimer)), (n_ranOut, .inl (E.2.1 3, 3, .inl o_zranOut)), (n_halted, .inl (E.2.1 3, 3, .inl o_zhalted)), (n_steps, .inl (E.2.1 0, 3, .inl o_zsteps)), (n_outs, .inl (E.2.1 0, 3, .inl o_zouts)), (n_waits, .inl (E.2.1 0, 3, .inl o_zwaits)), (n_disk, .inl (E.2.1 0, 384, .inl o_zdisk)), (n_made, .inl (E.2.1 0, 1024, .inl zmade))] := by
  refine jw (by decide +kernel) (Nat.le_of_ble_eq_true rfl) ?_
  intro p e s m below meth c A ls J hJ hAe hsz hA hZ hP hD hl
  rw [← hAe]
  have hS : va_S A s.heap s.heap [] := va_S.rf
  have hl : lv_has ls 5 [(0, .ref n0), (1, .int p1), (2, .int p2), (3, .int p3)] := hl
  unfold f_MD_begin at h
  refine lv_aload_n J.1 J.2.1 d_MD_begin_0 rfl (lv_at hl 0 rfl) ?_
  refine jg J hJ hP 0 rfl rfl i_MD 2 (by decide) gf_MD_21 rfl d_MD_begin_1 ?_
  refine lv_iload_n J.1 J.2.1 d_MD_begin_4 rfl (lv_at hl 1 rfl) ?_
  refine lv_iconst (v := 1) J.1 J.2.1 d_MD_begin_5 (by decide) ?_
  replace h := g_ck h
  obtain ⟨k_18, h⟩ := h
  refine va_zast J.1 J.2.1 hJ.1 hP hD hS 1 3 rfl rfl k_18 d_MD_begin_6 ?_
  clear hP hD hS
  intro H locs hP hD hS
  have hP : va_P E.1 classes [(n0, .inr (6, [.ref n_tape, .int ztaped, .ref n_isThere, .ref n_size, .ref n_depth, .ref n_memory, .ref n_register, .ref n_mode, .ref n_pc, .ref n_base, .ref n_bound, .ref n_timer, .ref n_ranOut, .ref n_halted, .ref n_steps, .ref n_outs, .ref n_output, .ref n_waits, .ref n_typed, .ref n_disk, .ref n_wants, .int zat, .int zend, .int zline, .ref n_labelFrom, .ref n_labelSize, .ref n_labelAddress, .int zlabels, .int zfault, .int zfaultLine, .int zisTold, .int zaddress, .ref n_made, .int zmissing, .int zgood, .int zvalue, .int zvalueFrom, .int zvalueSize, .int zme])), (n_isThere, .inl (E.2.1 3, 3, .inl (upd zisThere p1.toNatClampNeg (vp_nar .boolean 1)))), (n_size, .inl (E.2.1 0, 3, .inl zsize)), (n_depth, .inl (E.2.1 0, 3, .inl zdepth)), (n_memory, .inl (E.2.1 0, 3072, .inl zmemory)), (n_register, .inl (E.2.1 0, 24, .inl zregister)), (n_mode, .inl (E.2.1 0, 3, .inl zmode)), (n_pc, .inl (E.2.1 0, 3, .inl zpc)), (n_base, .inl (E.2.1 0, 3, .inl zbase)), (n_bound, .inl (E.2.1 0, 3, .inl zbound)), (n_timer, .inl (E.2.1 0, 3, .inl ztimer)), (n_ranOut, .inl (E.2.1 3, 3, .inl zranOut)), (n_halted, .inl (E.2.1 3, 3, .inl zhalted)), (n_steps, .inl (E.2.1 0, 3, .inl zsteps)), (n_outs, .inl (E.2.1 0, 3, .inl zouts)), (n_waits, .inl (E.2.1 0, 3, .inl zwaits)), (n_disk, .inl (E.2.1 0, 384, .inl zdisk)), (n_made, .inl (E.2.1 0, 1024, .inl zmade))] H := hP
  have hD : va_D A [(n0, .inr (6, [.ref n_tape, .int ztaped, .ref n_isThere, .ref n_size, .ref n_depth, .ref n_memory, .ref n_register, .ref n_mode, .ref n_pc, .ref n_base, .ref n_bound, .ref n_timer, .ref n_ranOut, .ref n_halted, .ref n_steps, .ref n_outs, .ref n_output, .ref n_waits, .ref n_typed, .ref n_disk, .ref n_wants, .int zat, .int zend, .int zline, .ref n_labelFrom, .ref n_labelSize, .ref n_labelAddress, .int zlabels, .int zfault, .int zfaultLine, .int zisTold, .int zaddress, .ref n_made, .int zmissing, .int zgood, .int zvalue, .int zvalueFrom, .int zvalueSize, .int zme])), (n_isThere, .inl (E.2.1 3, 3, .inl (upd zisThere p1.toNatClampNeg (vp_nar .boolean 1)))), (n_size, .inl (E.2.1 0, 3, .inl zsize)), (n_depth, .inl (E.2.1 0, 3, .inl zdepth)), (n_memory, .inl (E.2.1 0, 3072, .inl zmemory)), (n_register, .inl (E.2.1 0, 24, .inl zregister)), (n_mode, .inl (E.2.1 0, 3, .inl zmode)), (n_pc, .inl (E.2.1 0, 3, .inl zpc)), (n_base, .inl (E.2.1 0, 3, .inl zbase)), (n_bound, .inl (E.2.1 0, 3, .inl zbound)), (n_timer, .inl (E.2.1 0, 3, .inl ztimer)), (n_ranOut, .inl (E.2.1 3, 3, .inl zranOut)), (n_halted, .inl (E.2.1 3, 3, .inl zhalted)), (n_steps, .inl (E.2.1 0, 3, .inl zsteps)), (n_outs, .inl (E.2.1 0, 3, .inl zouts)), (n_waits, .inl (E.2.1 0, 3, .inl zwaits)), (n_disk, .inl (E.2.1 0, 384, .inl zdisk)), (n_made, .inl (E.2.1 0, 1024, .inl zmade))] := hD
  refine lv_aload_n J.1 J.2.1 d_MD_begin_7 rfl (lv_at hl 0 rfl) ?_
  refine jg J hJ hP 0 rfl rfl i_MD 3 (by decide) gf_MD_25 rfl d_MD_begin_8 ?_
  refine lv_iload_n J.1 J.2.1 d_MD_begin_11 rfl (lv_at hl 1 rfl) ?_
  refine lv_iload_n J.1 J.2.1 d_MD_begin_12 rfl (lv_at hl 2 rfl) ?_
  replace h := g_ck h
  obtain ⟨k_19, h⟩ := h
  refine jsi J hJ hP hD hS 2 rfl k_19 d_MD_begin_13 (WS' := [(n0, .inr (6, [.ref n_tape, .int ztaped, .ref n_isThere, .ref n_size, .ref n_depth, .ref n_memory, .ref n_register, .ref n_mode, .ref n_pc, .ref n_base, .ref n_bound, .ref n_timer, .ref n_ranOut, .ref n_halted, .ref n_steps, .ref n_outs, .ref n_output, .ref n_waits, .ref n_typed, .ref n_disk, .ref n_wants, .int zat, .int zend, .int zline, .ref n_labelFrom, .ref n_labelSize, .ref n_labelAddress, .int zlabels, .int zfault, .int zfaultLine, .int zisTold, .int zaddress, .ref n_made, .int zmissing, .int zgood, .int zvalue, .int zvalueFrom, .int zvalueSize, .int zme])), (n_isThere, .inl (E.2.1 3, 3, .inl (upd zisThere p1.toNatClampNeg (vp_nar .boolean 1)))), (n_size, .inl (E.2.1 0, 3, .inl (upd zsize p1.toNatClampNeg p2))), (n_depth, .inl (E.2.1 0, 3, .inl zdepth)), (n_memory, .inl (E.2.1 0, 3072, .inl zmemory)), (n_register, .inl (E.2.1 0, 24, .inl zregister)), (n_mode, .inl (E.2.1 0, 3, .inl zmode)), (n_pc, .inl (E.2.1 0, 3, .inl zpc)), (n_base, .inl (E.2.1 0, 3, .inl zbase)), (n_bound, .inl (E.2.1 0, 3, .inl zbound)), (n_timer, .inl (E.2.1 0, 3, .inl ztimer)), (n_ranOut, .inl (E.2.1 3, 3, .inl zranOut)), (n_halted, .inl (E.2.1 3, 3, .inl zhalted)), (n_steps, .inl (E.2.1 0, 3, .inl zsteps)), (n_outs, .inl (E.2.1 0, 3, .inl zouts)), (n_waits, .inl (E.2.1 0, 3, .inl zwaits)), (n_disk, .inl (E.2.1 0, 384, .inl zdisk)), (n_made, .inl (E.2.1 0, 1024, .inl zmade))]) rfl ?_
  clear hP hD hS
  intro H locs hP hD hS
  refine lv_aload_n J.1 J.2.1 d_MD_begin_14 rfl (lv_at hl 0 rfl) ?_
  refine jg J hJ hP 0 rfl rfl i_MD 4 (by decide) gf_MD_29 rfl d_MD_begin_15 ?_
  refine lv_iload_n J.1 J.2.1 d_MD_begin_18 rfl (lv_at hl 1 rfl) ?_
  refine lv_iload_n J.1 J.2.1 d_MD_begin_19 rfl (lv_at hl 3 rfl) ?_
  replace h := g_ck h
  obtain ⟨k_20, h⟩ := h
  refine jsi J hJ hP hD hS 3 rfl k_20 d_MD_begin_20 (WS' := [(n0, .inr (6, [.ref n_tape, .int ztaped, .ref n_isThere, .ref n_size, .ref n_depth, .ref n_memory, .ref n_register, .ref n_mode, .ref n_pc, .ref n_base, .ref n_bound, .ref n_timer, .ref n_ranOut, .ref n_halted, .ref n_steps, .ref n_outs, .ref n_output, .ref n_waits, .ref n_typed, .ref n_disk, .ref n_wants, .int zat, .int zend, .int zline, .ref n_labelFrom, .ref n_labelSize, .ref n_labelAddress, .int zlabels, .int zfault, .int zfaultLine, .int zisTold, .int zaddress, .ref n_made, .int zmissing, .int zgood, .int zvalue, .int zvalueFrom, .int zvalueSize, .int zme])), (n_isThere, .inl (E.2.1 3, 3, .inl (upd zisThere p1.toNatClampNeg (vp_nar .boolean 1)))), (n_size, .inl (E.2.1 0, 3, .inl (upd zsize p1.toNatClampNeg p2))), (n_depth, .inl (E.2.1 0, 3, .inl (upd zdepth p1.toNatClampNeg p3))), (n_memory, .inl (E.2.1 0, 3072, .inl zmemory)), (n_register, .inl (E.2.1 0, 24, .inl zregister)), (n_mode, .inl (E.2.1 0, 3, .inl zmode)), (n_pc, .inl (E.2.1 0, 3, .inl zpc)), (n_base, .inl (E.2.1 0, 3, .inl zbase)), (n_bound, .inl (E.2.1 0, 3, .inl zbound)), (n_timer, .inl (E.2.1 0, 3, .inl ztimer)), (n_ranOut, .inl (E.2.1 3, 3, .inl zranOut)), (n_halted, .inl (E.2.1 3, 3, .inl zhalted)), (n_steps, .inl (E.2.1 0, 3, .inl zsteps)), (n_outs, .inl (E.2.1 0, 3, .inl zouts)), (n_waits, .inl (E.2.1 0, 3, .inl zwaits)), (n_disk, .inl (E.2.1 0, 384, .inl zdisk)), (n_made, .inl (E.2.1 0, 1024, .inl zmade))]) rfl ?_
  clear hP hD hS
  intro H locs hP hD hS
  refine lv_iconst (v := 0) J.1 J.2.1 d_MD_begin_21 (by decide) ?_
  refine lv_istore (lv' := [(4, .int 0), (0, .ref n0), (1, .int p1), (2, .int p2), (3, .int p3)]) J.1 J.2.1 d_MD_begin_22 hl (by decide) rfl ?_
  clear hl
  intro ls hl
  exact kb_MD_begin_24 J hJ hA hZ _ _ _ _ _ _ _ _ _ _ _ _ _ _ _ _ _ _ _ _ _ _ _ _ _ _ _ _ _ _ _ _ _ _ _ _ _ _ _ h hP hD hS (lv_sub hl [1, 2, 3, 0] rfl)

theorem hd_MD_load : y_MD_load.cls ≠ "java/lang/invoke/MethodHandle" ∧ y_MD_load.cls ≠ "java/lang/invoke/VarHandle" ∧ (parseMethodDescriptor y_MD_load.desc).map (fun d => d.parameters.length) = some 4 := by decide +kernel
def b_MD_load_86 : Nat → Int32 → Int32 → Int32 → Int32 → Int32 → Int32 → Int32 → Int32 → Int32 → Int32 → Int32 → (Nat → Int32) → (Nat → Int32) → (Nat → Int32) → (Nat → Int32) → (Nat → Int32) → (Nat → Int32) → (Nat → Int32) → (Nat → Int32) → (Nat → Int32) → (Nat → Int32) → (Nat → Int32) → (Nat → Int32) → (Nat → Int32) → (Nat → Int32) → (Nat → Int32) → (Nat → Int32) → (Nat → Int32) → (Nat → Int32) → (Nat → Int32) → (Nat → Int32) → (Nat → Int32) → (Nat → Int32) → Int32 → Int32 → Int32 → Int32 → Option (Int32 × Int32 × Int32 × Int32 × Int32 × Int32 × Int32 × Int32 × Int32 × Int32 × Int32 × Int32 × Int32 × Int32 × Int32 × (Nat → Int32) × (Nat → Int32) × (Nat → Int32) × (Nat → Int32) × (Nat → Int32) × (Nat → Int32) × (Nat → Int32) × (Nat → Int32) × (Nat → Int32) × (Nat → Int32) × (Nat → Int32) × (Nat → Int32) × (Nat → Int32) × (Nat → Int32) × (Nat → Int32) × (Nat → Int32) × (Nat → Int32) × (Nat → Int32) × (Nat → Int32) × (Nat → Int32))
  | 0, _, _, _, _, _, _, _, _, _, _, _, _, _, _, _, _, _, _, _, _, _, _, _, _, _, _, _, _, _, _, _, _, _, _, _, _, _ => none
  | n + 1, ztaped, zend, zlabels, zfault, zfaultLine, zisTold, zmissing, zgood, zvalue, zvalueFrom, zvalueSize, ztape, zisThere, zsize, zdepth, zmemory, zregister, zmode, zpc, zbase, zbound, ztimer, zranOut, zhalted, zsteps, zouts, zwaits, zdisk, zwants, zlabelFrom, zlabelSize, zlabelAddress, zmade, x1, x2, x3, x5 => (if (1024 : Int32) ≤ x5 then ((f_MD_lines zend zlabels zfault zfaultLine zmissing zgood zvalue zvalueFrom zvalueSize ztape zwants zlabelFrom zlabelSize zlabelAddress zmade x2 0).bind fun (r_2, zat_2, zline_2, zlabels_2, zfault_2, zfaultLine_2, zaddress_2, zmissing_2, zgood_2, zvalue_2, zvalueFrom_2, zvalueSize_2, zlabelFrom_2, zlabelSize_2, zlabelAddress_2, zmade_2) => (if r_2 = (0 : Int32) then (some ((-1), ztaped, zat_2, zend, zline_2, zlabels_2, zfault_2, zfaultLine_2, zisTold, zaddress_2, zmissing_2, zgood_2, zvalue_2, zvalueFrom_2, zvalueSize_2, zisThere, zsize, zdepth, zmemory, zregister, zmode, zpc, zbase, zbound, ztimer, zranOut, zhalted, zsteps, zouts, zwaits, zdisk, zlabelFrom_2, zlabelSize_2, zlabelAddress_2, zmade_2)) else ((f_MD_lines zend zlabels_2 zfault_2 zfaultLine_2 zmissing_2 zgood_2 zvalue_2 zvalueFrom_2 zvalueSize_2 ztape zwants zlabelFrom_2 zlabelSize_2 zlabelAddress_2 zmade_2 x2 1).bind fun (r_4, zat_4, zline_4, zlabels_4, zfault_4, zfaultLine_4, zaddress_4, zmissing_4, zgood_4, zvalue_4, zvalueFrom_4, zvalueSize_4, zlabelFrom_4, zlabelSize_4, zlabelAddress_4, zmade_4) => (if r_4 = (0 : Int32) then (some ((-1), ztaped, zat_4, zend, zline_4, zlabels_4, zfault_4, zfaultLine_4, zisTold, zaddress_4, zmissing_4, zgood_4, zvalue_4, zvalueFrom_4, zvalueSize_4, zisThere, zsize, zdepth, zmemory, zregister, zmode, zpc, zbase, zbound, ztimer, zranOut, zhalted, zsteps, zouts, zwaits, zdisk, zlabelFrom_4, zlabelSize_4, zlabelAddress_4, zmade_4)) else (if zmissing_4 ≤ (0 : Int32) then ((f_MD_begin zisThere zsize zdepth zmemory zregister zmode zpc zbase zbound ztimer zranOut zhalted zsteps zouts zwaits zdisk zmade_4 x1 x2 x3).bind fun (zisThere_7, zsize_7, zdepth_7, zmemory_7, zregister_7, zmode_7, zpc_7, zbase_7, zbound_7, ztimer_7, zranOut_7, zhalted_7, zsteps_7, zouts_7, zwaits_7, zdisk_7) => (some (zaddress_4, ztaped, zat_4, zend, zline_4, zlabels_4, zfault_4, zfaultLine_4, zisTold, zaddress_4, zmissing_4, zgood_4, zvalue_4, zvalueFrom_4, zvalueSize_4, zisThere_7, zsize_7, zdepth_7, zmemory_7, zregister_7, zmode_7, zpc_7, zbase_7, zbound_7, ztimer_7, zranOut_7, zhalted_7, zsteps_7, zouts_7, zwaits_7, zdisk_7, zlabelFrom_4, zlabelSize_4, zlabelAddress_4, zmade_4))) else (some ((-1), ztaped, zat_4, zend, zline_4, zlabels_4, 5, zmissing_4, zisTold, zaddress_4, zmissing_4, zgood_4, zvalue_4, zvalueFrom_4, zvalueSize_4, zisThere, zsize, zdepth, zmemory, zregister, zmode, zpc, zbase, zbound, ztimer, zranOut, zhalted, zsteps, zouts, zwaits, zdisk, zlabelFrom_4, zlabelSize_4, zlabelAddress_4, zmade_4))))))) else (if ck x5 1024 then b_MD_load_86 n ztaped zend zlabels zfault zfaultLine zisTold zmissing zgood zvalue zvalueFrom zvalueSize ztape zisThere zsize zdepth zmemory zregister zmode zpc zbase zbound ztimer zranOut zhalted zsteps zouts zwaits zdisk zwants zlabelFrom zlabelSize zlabelAddress (upd zmade x5.toNatClampNeg 0) x1 x2 x3 (x5 + 1) else none))
def f_MD_load (ztaped : Int32) (zat : Int32) (zend : Int32) (zline : Int32) (zlabels : Int32) (zfault : Int32) (zfaultLine : Int32) (zisTold : Int32) (zaddress : Int32) (zmissing : Int32) (zgood : Int32) (zvalue : Int32) (zvalueFrom : Int32) (zvalueSize : Int32) (ztape : Nat → Int32) (zisThere : Nat → Int32) (zsize : Nat → Int32) (zdepth : Nat → Int32) (zmemory : Nat → Int32) (zregister : Nat → Int32) (zmode : Nat → Int32) (zpc : Nat → Int32) (zbase : Nat → Int32) (zbound : Nat → Int32) (ztimer : Nat → Int32) (zranOut : Nat → Int32) (zhalted : Nat → Int32) (zsteps : Nat → Int32) (zouts : Nat → Int32) (zwaits : Nat → Int32) (zdisk : Nat → Int32) (zwants : Nat → Int32) (zlabelFrom : Nat → Int32) (zlabelSize : Nat → Int32) (zlabelAddress : Nat → Int32) (zmade : Nat → Int32) (p1 : Int32) (p2 : Int32) (p3 : Int32) (p4 : Int32) : Option (Int32 × Int32 × Int32 × Int32 × Int32 × Int32 × Int32 × Int32 × Int32 × Int32 × Int32 × Int32 × Int32 × Int32 × Int32 × (Nat → Int32) × (Nat → Int32) × (Nat → Int32) × (Nat → Int32) × (Nat → Int32) × (Nat → Int32) × (Nat → Int32) × (Nat → Int32) × (Nat → Int32) × (Nat → Int32) × (Nat → Int32) × (Nat → Int32) × (Nat → Int32) × (Nat → Int32) × (Nat → Int32) × (Nat → Int32) × (Nat → Int32) × (Nat → Int32) × (Nat → Int32) × (Nat → Int32)) := ((f_MD_in  p1 0 2).bind fun r_9 => (if r_9 = (0 : Int32) then (some ((-2), ztaped, zat, zend, zline, zlabels, zfault, zfaultLine, zisTold, zaddress, zmissing, zgood, zvalue, zvalueFrom, zvalueSize, zisThere, zsize, zdepth, zmemory, zregister, zmode, zpc, zbase, zbound, ztimer, zranOut, zhalted, zsteps, zouts, zwaits, zdisk, zlabelFrom, zlabelSize, zlabelAddress, zmade)) else ((f_MD_in  p2 64 1024).bind fun r_11 => (if r_11 = (0 : Int32) then (some ((-2), ztaped, zat, zend, zline, zlabels, zfault, zfaultLine, zisTold, zaddress, zmissing, zgood, zvalue, zvalueFrom, zvalueSize, zisThere, zsize, zdepth, zmemory, zregister, zmode, zpc, zbase, zbound, ztimer, zranOut, zhalted, zsteps, zouts, zwaits, zdisk, zlabelFrom, zlabelSize, zlabelAddress, zmade)) else ((f_MD_in  p3 0 2).bind fun r_13 => (if r_13 = (0 : Int32) then (some ((-2), ztaped, zat, zend, zline, zlabels, zfault, zfaultLine, zisTold, zaddress, zmissing, zgood, zvalue, zvalueFrom, zvalueSize, zisThere, zsize, zdepth, zmemory, zregister, zmode, zpc, zbase, zbound, ztimer, zranOut, zhalted, zsteps, zouts, zwaits, zdisk, zlabelFrom, zlabelSize, zlabelAddress, zmade)) else (if p4 < (0 : Int32) then (some ((-2), ztaped, zat, zend, zline, zlabels, zfault, zfaultLine, zisTold, zaddress, zmissing, zgood, zvalue, zvalueFrom, zvalueSize, zisThere, zsize, zdepth, zmemory, zregister, zmode, zpc, zbase, zbound, ztimer, zranOut, zhalted, zsteps, zouts, zwaits, zdisk, zlabelFrom, zlabelSize, zlabelAddress, zmade)) else (if p4 ≤ ztaped then b_MD_load_86 65536 0 p4 0 0 0 1 0 zgood zvalue zvalueFrom zvalueSize ztape zisThere zsize zdepth zmemory zregister zmode zpc zbase zbound ztimer zranOut zhalted zsteps zouts zwaits zdisk zwants zlabelFrom zlabelSize zlabelAddress zmade p1 p2 p3 0 else (some ((-2), ztaped, zat, zend, zline, zlabels, zfault, zfaultLine, zisTold, zaddress, zmissing, zgood, zvalue, zvalueFrom, zvalueSize, zisThere, zsize, zdepth, zmemory, zregister, zmode, zpc, zbase, zbound, ztimer, zranOut, zhalted, zsteps, zouts, zwaits, zdisk, zlabelFrom, zlabelSize, zlabelAddress, zmade))))))))))
set_option maxHeartbeats 4000000 in
set_option maxRecDepth 100000 in
theorem kb_MD_load_86 {p : Program} {l : Launch} {e : Env} {s : State} {m : MethodId} {below : List Frame} {meth : Method} {c : Code} {A : Nat → Prop} {E : jz_E} {n0 n_base n_bound n_depth n_disk n_halted n_isThere n_labelAddress n_labelFrom n_labelSize n_made n_memory n_mode n_output n_outs n_pc n_ranOut n_register n_size n_steps n_tape n_timer n_typed n_waits n_wants : Nat} {p1 : Int32} {p2 : Int32} {p3 : Int32} {p4 : Int32} {o_r : Int32} {o_ztaped : Int32} {o_zat : Int32} {o_zend : Int32} {o_zline : Int32} {o_zlabels : Int32} {o_zfault : Int32} {o_zfaultLine : Int32} {o_zisTold : Int32} {o_zaddress : Int32} {o_zmissing : Int32} {o_zgood : Int32} {o_zvalue : Int32} {o_zvalueFrom : Int32} {o_zvalueSize : Int32} {o_zisThere : Nat → Int32} {o_zsize : Nat → Int32} {o_zdepth : Nat → Int32} {o_zmemory : Nat → Int32} {o_zregister : Nat → Int32} {o_zmode : Nat → Int32} {o_zpc : Nat → Int32} {o_zbase : Nat → Int32} {o_zbound : Nat → Int32} {o_ztimer : Nat → Int32} {o_zranOut : Nat → Int32} {o_zhalted : Nat → Int32} {o_zsteps : Nat → Int32} {o_zouts : Nat → Int32} {o_zwaits : Nat → Int32} {o_zdisk : Nat → Int32} {o_zlabelFrom : Nat → Int32} {o_zlabelSize : Nat → Int32} {o_zlabelAddress : Nat → Int32} {o_zmade : Nat → Int32} (J : JC p s m ([.ref n0, .int p1, .int p2, .int p3, .int p4] : List Value).toArray meth c c_MD_load 6 (some .int) y_MD_load.cls) (hJ : jE E s) (hA : ∀ q : Nat, s.heap.size ≤ q → A q) (hZ : jz_ok E A s s.heap) : ∀ (n : Nat) (ztaped : Int32) (zat : Int32) (zend : Int32) (zline : Int32) (zlabels : Int32) (zfault : Int32) (zfaultLine : Int32) (zisTold : Int32) (zaddress : Int32) (zmissing : Int32) (zgood : Int32) (zvalue : Int32) (zvalueFrom : Int32) (zvalueSize : Int32) (zme : Int32) (ztape : Nat → Int32) (zisThere : Nat → Int32) (zsize : Nat → Int32) (zdepth : Nat → Int32) (zmemory : Nat → Int32) (zregister : Nat → Int32) (zmode : Nat → Int32) (zpc : Nat → Int32) (zbase : Nat → Int32) (zbound : Nat → Int32) (ztimer : Nat → Int32) (zranOut : Nat → Int32) (zhalted : Nat → Int32) (zsteps : Nat → Int32) (zouts : Nat → Int32) (zwaits : Nat → Int32) (zdisk : Nat → Int32) (zwants : Nat → Int32) (zlabelFrom : Nat → Int32) (zlabelSize : Nat → Int32) (zlabelAddress : Nat → Int32) (zmade : Nat → Int32) (x1 : Int32) (x2 : Int32) (x3 : Int32) (x5 : Int32) (H : Heap) (locs : List Loc) (ls : Array Slot), b_MD_load_86 n ztaped zend zlabels zfault zfaultLine zisTold zmissing zgood zvalue zvalueFrom zvalueSize ztape zisThere zsize zdepth zmemory zregister zmode zpc zbase zbound ztimer zranOut zhalted zsteps zouts zwaits zdisk zwants zlabelFrom zlabelSize zlabelAddress zmade x1 x2 x3 x5 = some (o_r, o_ztaped, o_zat, o_zend, o_zline, o_zlabels, o_zfault, o_zfaultLine, o_zisTold, o_zaddress, o_zmissing, o_zgood, o_zvalue, o_zvalueFrom, o_zvalueSize, o_zisThere, o_zsize, o_zdepth, o_zmemory, o_zregister, o_zmode, o_zpc, o_zbase, o_zbound, o_ztimer, o_zranOut, o_zhalted, o_zsteps, o_zouts, o_zwaits, o_zdisk, o_zlabelFrom, o_zlabelSize, o_zlabelAddress, o_zmade) → va_P E.1 classes [(n0, .inr (6, [.ref n_tape, .int ztaped, .ref n_isThere, .ref n_size, .ref n_depth, .ref n_memory, .ref n_register, .ref n_mode, .ref n_pc, .ref n_base, .ref n_bound, .ref n_timer, .ref n_ranOut, .ref n_halted, .ref n_steps, .ref n_outs, .ref n_output, .ref n_waits, .ref n_typed, .ref n_disk, .ref n_wants, .int zat, .int zend, .int zline, .ref n_labelFrom, .ref n_labelSize, .ref n_labelAddress, .int zlabels, .int zfault, .int zfaultLine, .int zisTold, .int zaddress, .ref n_made, .int zmissing, .int zgood, .int zvalue, .int zvalueFrom, .int zvalueSize, .int zme])), (n_tape, .inl (E.2.1 2, 3000, .inl ztape)), (n_isThere, .inl (E.2.1 3, 3, .inl zisThere)), (n_size, .inl (E.2.1 0, 3, .inl zsize)), (n_depth, .inl (E.2.1 0, 3, .inl zdepth)), (n_memory, .inl (E.2.1 0, 3072, .inl zmemory)), (n_register, .inl (E.2.1 0, 24, .inl zregister)), (n_mode, .inl (E.2.1 0, 3, .inl zmode)), (n_pc, .inl (E.2.1 0, 3, .inl zpc)), (n_base, .inl (E.2.1 0, 3, .inl zbase)), (n_bound, .inl (E.2.1 0, 3, .inl zbound)), (n_timer, .inl (E.2.1 0, 3, .inl ztimer)), (n_ranOut, .inl (E.2.1 3, 3, .inl zranOut)), (n_halted, .inl (E.2.1 3, 3, .inl zhalted)), (n_steps, .inl (E.2.1 0, 3, .inl zsteps)), (n_outs, .inl (E.2.1 0, 3, .inl zouts)), (n_waits, .inl (E.2.1 0, 3, .inl zwaits)), (n_disk, .inl (E.2.1 0, 384, .inl zdisk)), (n_wants, .inl (E.2.1 0, 25, .inl zwants)), (n_labelFrom, .inl (E.2.1 0, 100, .inl zlabelFrom)), (n_labelSize, .inl (E.2.1 0, 100, .inl zlabelSize)), (n_labelAddress, .inl (E.2.1 0, 100, .inl zlabelAddress)), (n_made, .inl (E.2.1 0, 1024, .inl zmade))] H → va_D A [(n0, .inr (6, [.ref n_tape, .int ztaped, .ref n_isThere, .ref n_size, .ref n_depth, .ref n_memory, .ref n_register, .ref n_mode, .ref n_pc, .ref n_base, .ref n_bound, .ref n_timer, .ref n_ranOut, .ref n_halted, .ref n_steps, .ref n_outs, .ref n_output, .ref n_waits, .ref n_typed, .ref n_disk, .ref n_wants, .int zat, .int zend, .int zline, .ref n_labelFrom, .ref n_labelSize, .ref n_labelAddress, .int zlabels, .int zfault, .int zfaultLine, .int zisTold, .int zaddress, .ref n_made, .int zmissing, .int zgood, .int zvalue, .int zvalueFrom, .int zvalueSize, .int zme])), (n_tape, .inl (E.2.1 2, 3000, .inl ztape)), (n_isThere, .inl (E.2.1 3, 3, .inl zisThere)), (n_size, .inl (E.2.1 0, 3, .inl zsize)), (n_depth, .inl (E.2.1 0, 3, .inl zdepth)), (n_memory, .inl (E.2.1 0, 3072, .inl zmemory)), (n_register, .inl (E.2.1 0, 24, .inl zregister)), (n_mode, .inl (E.2.1 0, 3, .inl zmode)), (n_pc, .inl (E.2.1 0, 3, .inl zpc)), (n_base, .inl (E.2.1 0, 3, .inl zbase)), (n_bound, .inl (E.2.1 0, 3, .inl zbound)), (n_timer, .inl (E.2.1 0, 3, .inl ztimer)), (n_ranOut, .inl (E.2.1 3, 3, .inl zranOut)), (n_halted, .inl (E.2.1 3, 3, .inl zhalted)), (n_steps, .inl (E.2.1 0, 3, .inl zsteps)), (n_outs, .inl (E.2.1 0, 3, .inl zouts)), (n_waits, .inl (E.2.1 0, 3, .inl zwaits)), (n_disk, .inl (E.2.1 0, 384, .inl zdisk)), (n_wants, .inl (E.2.1 0, 25, .inl zwants)), (n_labelFrom, .inl (E.2.1 0, 100, .inl zlabelFrom)), (n_labelSize, .inl (E.2.1 0, 100, .inl zlabelSize)), (n_labelAddress, .inl (E.2.1 0, 100, .inl zlabelAddress)), (n_made, .inl (E.2.1 0, 1024, .inl zmade))] → va_S A s.heap H locs → lv_has ls 6 [(0, .ref n0), (1, .int x1), (2, .int x2), (3, .int x3), (5, .int x5)] → W p l e ({ frames := 5, cells := 0, slots := 0, locals := 117 }) s m ([.ref n0, .int p1, .int p2, .int p3, .int p4] : List Value).toArray below meth c H locs 0 0 (MQ below (va_Qi (fun (r' : Int32) (u : va_W) => r' = o_r ∧ u = [(n0, .inr (6, [.ref n_tape, .int o_ztaped, .ref n_isThere, .ref n_size, .ref n_depth, .ref n_memory, .ref n_register, .ref n_mode, .ref n_pc, .ref n_base, .ref n_bound, .ref n_timer, .ref n_ranOut, .ref n_halted, .ref n_steps, .ref n_outs, .ref n_output, .ref n_waits, .ref n_typed, .ref n_disk, .ref n_wants, .int o_zat, .int o_zend, .int o_zline, .ref n_labelFrom, .ref n_labelSize, .ref n_labelAddress, .int o_zlabels, .int o_zfault, .int o_zfaultLine, .int o_zisTold, .int o_zaddress, .ref n_made, .int o_zmissing, .int o_zgood, .int o_zvalue, .int o_zvalueFrom, .int o_zvalueSize, .int zme])), (n_tape, .inl (E.2.1 2, 3000, .inl ztape)), (n_isThere, .inl (E.2.1 3, 3, .inl o_zisThere)), (n_size, .inl (E.2.1 0, 3, .inl o_zsize)), (n_depth, .inl (E.2.1 0, 3, .inl o_zdepth)), (n_memory, .inl (E.2.1 0, 3072, .inl o_zmemory)), (n_register, .inl (E.2.1 0, 24, .inl o_zregister)), (n_mode, .inl (E.2.1 0, 3, .inl o_zmode)), (n_pc, .inl (E.2.1 0, 3, .inl o_zpc)), (n_base, .inl (E.2.1 0, 3, .inl o_zbase)), (n_bound, .inl (E.2.1 0, 3, .inl o_zbound)), (n_timer, .inl (E.2.1 0, 3, .inl o_ztimer)), (n_ranOut, .inl (E.2.1 3, 3, .inl o_zranOut)), (n_halted, .inl (E.2.1 3, 3, .inl o_zhalted)), (n_steps, .inl (E.2.1 0, 3, .inl o_zsteps)), (n_outs, .inl (E.2.1 0, 3, .inl o_zouts)), (n_waits, .inl (E.2.1 0, 3, .inl o_zwaits)), (n_disk, .inl (E.2.1 0, 384, .inl o_zdisk)), (n_wants, .inl (E.2.1 0, 25, .inl zwants)), (n_labelFrom, .inl (E.2.1 0, 100, .inl o_zlabelFrom)), (n_labelSize, .inl (E.2.1 0, 100, .inl o_zlabelSize)), (n_labelAddress, .inl (E.2.1 0, 100, .inl o_zlabelAddress)), (n_made, .inl (E.2.1 0, 1024, .inl o_zmade))]) (BW E A) A) ([.ref n0, .int p1, .int p2, .int p3, .int p4] : List Value).toArray s 0 0 A) (F0 m 86 ls []) := by
  intro n
  induction n with
  | zero => intro ztaped zat zend zline zlabels zfault zfaultLine zisTold zaddress zmissing zgood zvalue zvalueFrom zvalueSize zme ztape zisThere zsize zdepth zmemory zregister zmode zpc zbase zbound ztimer zranOut zhalted zsteps zouts zwaits zdisk zwants zlabelFrom zlabelSize zlabelAddress zmade x1 x2 x3 x5 H locs ls h; cases h
  | succ n ih =>
    intro ztaped zat zend zline zlabels zfault zfaultLine zisTold zaddress zmissing zgood zvalue zvalueFrom zvalueSize zme ztape zisThere zsize zdepth zmemory zregister zmode zpc zbase zbound ztimer zranOut zhalted zsteps zouts zwaits zdisk zwants zlabelFrom zlabelSize zlabelAddress zmade x1 x2 x3 x5 H locs ls h hP hD hS hl
    rw [b_MD_load_86] at h
    refine lv_iload J.1 J.2.1 d_MD_load_86 (lv_at hl 4 rfl) ?_
    refine lv_sipush (v := 1024) J.1 J.2.1 d_MD_load_88 (by decide) ?_
    refine lv_icmp_ge (tgt := 108) J.1 J.2.1 d_MD_load_91 (by decide) (fun c_1 => ?_) (fun c_1 => ?_)
    · replace h := g_t c_1 h
      refine lv_aload_n J.1 J.2.1 d_MD_load_108 rfl (lv_at hl 0 rfl) ?_
      refine lv_iload_n J.1 J.2.1 d_MD_load_109 rfl (lv_at hl 2 rfl) ?_
      refine lv_iconst (v := 0) J.1 J.2.1 d_MD_load_110 (by decide) ?_
      replace h := g_bd h
      obtain ⟨⟨r_2, zat_2, zline_2, zlabels_2, zfault_2, zfaultLine_2, zaddress_2, zmissing_2, zgood_2, zvalue_2, zvalueFrom_2, zvalueSize_2, zlabelFrom_2, zlabelSize_2, zlabelAddress_2, zmade_2⟩, q_2, h⟩ := h
      try dsimp only at h
      have hq := ct_MD_lines l E n0 n_base n_bound n_depth n_disk n_halted n_isThere n_labelAddress n_labelFrom n_labelSize n_made n_memory n_mode n_output n_outs n_pc n_ranOut n_register n_size n_steps n_tape n_timer n_typed n_waits n_wants H.size ztaped zat zend zline zlabels zfault zfaultLine zisTold zaddress zmissing zgood zvalue zvalueFrom zvalueSize zme ztape zwants zlabelFrom zlabelSize zlabelAddress zmade x2 0 r_2 zat_2 zline_2 zlabels_2 zfault_2 zfaultLine_2 zaddress_2 zmissing_2 zgood_2 zvalue_2 zvalueFrom_2 zvalueSize_2 zlabelFrom_2 zlabelSize_2 zlabelAddress_2 zmade_2 q_2
      have hr := jrunV (p := p) (e := e) (below := below) (R := ({ frames := 5, cells := 0, slots := 0, locals := 117 })) (cells := 0) (slots := 0) (As := [.int x2, .int 0]) (rest := []) J hJ hA hZ hP hD hS hq [0, 1, 18, 19, 20, 21, 22] rfl (by decide) gl_MD_253 gi_MD_lines gsel_MD_lines gini_MD gc_MD_lines hd_MD_lines ⟨rfl, rfl, Nat.le_of_ble_eq_true rfl, Nat.le_of_ble_eq_true rfl⟩ rfl rfl hl.1 rfl rfl (Nat.le_of_ble_eq_true rfl) d_MD_load_111 ⟨Nat.zero_le _, Nat.zero_le _⟩
      clear hq
      refine jk_i hr hA hP hD hS [0, 1, 18, 19, 20, 21, 22] [2, 3, 4, 5, 6, 7, 8, 9, 10, 11, 12, 13, 14, 15, 16, 17] (WR := [(n_isThere, .inl (E.2.1 3, 3, .inl zisThere)), (n_size, .inl (E.2.1 0, 3, .inl zsize)), (n_depth, .inl (E.2.1 0, 3, .inl zdepth)), (n_memory, .inl (E.2.1 0, 3072, .inl zmemory)), (n_register, .inl (E.2.1 0, 24, .inl zregister)), (n_mode, .inl (E.2.1 0, 3, .inl zmode)), (n_pc, .inl (E.2.1 0, 3, .inl zpc)), (n_base, .inl (E.2.1 0, 3, .inl zbase)), (n_bound, .inl (E.2.1 0, 3, .inl zbound)), (n_timer, .inl (E.2.1 0, 3, .inl ztimer)), (n_ranOut, .inl (E.2.1 3, 3, .inl zranOut)), (n_halted, .inl (E.2.1 3, 3, .inl zhalted)), (n_steps, .inl (E.2.1 0, 3, .inl zsteps)), (n_outs, .inl (E.2.1 0, 3, .inl zouts)), (n_waits, .inl (E.2.1 0, 3, .inl zwaits)), (n_disk, .inl (E.2.1 0, 384, .inl zdisk))]) rfl rfl (by decide) (by decide) [16, 17, 0, 1, 2, 3, 4, 5, 6, 7, 8, 9, 10, 11, 12, 13, 14, 15, 18, 19, 20, 21, 22] (WF := [(n0, .inr (6, [.ref n_tape, .int ztaped, .ref n_isThere, .ref n_size, .ref n_depth, .ref n_memory, .ref n_register, .ref n_mode, .ref n_pc, .ref n_base, .ref n_bound, .ref n_timer, .ref n_ranOut, .ref n_halted, .ref n_steps, .ref n_outs, .ref n_output, .ref n_waits, .ref n_typed, .ref n_disk, .ref n_wants, .int zat_2, .int zend, .int zline_2, .ref n_labelFrom, .ref n_labelSize, .ref n_labelAddress, .int zlabels_2, .int zfault_2, .int zfaultLine_2, .int zisTold, .int zaddress_2, .ref n_made, .int zmissing_2, .int zgood_2, .int zvalue_2, .int zvalueFrom_2, .int zvalueSize_2, .int zme])), (n_tape, .inl (E.2.1 2, 3000, .inl ztape)), (n_isThere, .inl (E.2.1 3, 3, .inl zisThere)), (n_size, .inl (E.2.1 0, 3, .inl zsize)), (n_depth, .inl (E.2.1 0, 3, .inl zdepth)), (n_memory, .inl (E.2.1 0, 3072, .inl zmemory)), (n_register, .inl (E.2.1 0, 24, .inl zregister)), (n_mode, .inl (E.2.1 0, 3, .inl zmode)), (n_pc, .inl (E.2.1 0, 3, .inl zpc)), (n_base, .inl (E.2.1 0, 3, .inl zbase)), (n_bound, .inl (E.2.1 0, 3, .inl zbound)), (n_timer, .inl (E.2.1 0, 3, .inl ztimer)), (n_ranOut, .inl (E.2.1 3, 3, .inl zranOut)), (n_halted, .inl (E.2.1 3, 3, .inl zhalted)), (n_steps, .inl (E.2.1 0, 3, .inl zsteps)), (n_outs, .inl (E.2.1 0, 3, .inl zouts)), (n_waits, .inl (E.2.1 0, 3, .inl zwaits)), (n_disk, .inl (E.2.1 0, 384, .inl zdisk)), (n_wants, .inl (E.2.1 0, 25, .inl zwants)), (n_labelFrom, .inl (E.2.1 0, 100, .inl zlabelFrom_2)), (n_labelSize, .inl (E.2.1 0, 100, .inl zlabelSize_2)), (n_labelAddress, .inl (E.2.1 0, 100, .inl zlabelAddress_2)), (n_made, .inl (E.2.1 0, 1024, .inl zmade_2))]) rfl (by decide) ?_
      clear hP hD hS
      intro H locs hP hD hS
      clear hr
      refine lv_if_eq (tgt := 126) J.1 J.2.1 d_MD_load_114 (by decide) (fun c_3 => ?_) (fun c_3 => ?_)
      · replace h := g_t c_3 h
        refine lv_iconst (v := (-1)) J.1 J.2.1 d_MD_load_126 (by decide) ?_
        have h := Option.some.inj h
        have e_0 := (Prod.mk.inj h).1
        have h := (Prod.mk.inj h).2
        have e_1 := (Prod.mk.inj h).1
        have h := (Prod.mk.inj h).2
        have e_2 := (Prod.mk.inj h).1
        have h := (Prod.mk.inj h).2
        have e_3 := (Prod.mk.inj h).1
        have h := (Prod.mk.inj h).2
        have e_4 := (Prod.mk.inj h).1
        have h := (Prod.mk.inj h).2
        have e_5 := (Prod.mk.inj h).1
        have h := (Prod.mk.inj h).2
        have e_6 := (Prod.mk.inj h).1
        have h := (Prod.mk.inj h).2
        have e_7 := (Prod.mk.inj h).1
        have h := (Prod.mk.inj h).2
        have e_8 := (Prod.mk.inj h).1
        have h := (Prod.mk.inj h).2
        have e_9 := (Prod.mk.inj h).1
        have h := (Prod.mk.inj h).2
        have e_10 := (Prod.mk.inj h).1
        have h := (Prod.mk.inj h).2
        have e_11 := (Prod.mk.inj h).1
        have h := (Prod.mk.inj h).2
        have e_12 := (Prod.mk.inj h).1
        have h := (Prod.mk.inj h).2
        have e_13 := (Prod.mk.inj h).1
        have h := (Prod.mk.inj h).2
        have e_14 := (Prod.mk.inj h).1
        have h := (Prod.mk.inj h).2
        have e_15 := (Prod.mk.inj h).1
        have h := (Prod.mk.inj h).2
        have e_16 := (Prod.mk.inj h).1
        have h := (Prod.mk.inj h).2
        have e_17 := (Prod.mk.inj h).1
        have h := (Prod.mk.inj h).2
        have e_18 := (Prod.mk.inj h).1
        have h := (Prod.mk.inj h).2
        have e_19 := (Prod.mk.inj h).1
        have h := (Prod.mk.inj h).2
        have e_20 := (Prod.mk.inj h).1
        have h := (Prod.mk.inj h).2
        have e_21 := (Prod.mk.inj h).1
        have h := (Prod.mk.inj h).2
        have e_22 := (Prod.mk.inj h).1
        have h := (Prod.mk.inj h).2
        have e_23 := (Prod.mk.inj h).1
        have h := (Prod.mk.inj h).2
        have e_24 := (Prod.mk.inj h).1
        have h := (Prod.mk.inj h).2
        have e_25 := (Prod.mk.inj h).1
        have h := (Prod.mk.inj h).2
        have e_26 := (Prod.mk.inj h).1
        have h := (Prod.mk.inj h).2
        have e_27 := (Prod.mk.inj h).1
        have h := (Prod.mk.inj h).2
        have e_28 := (Prod.mk.inj h).1
        have h := (Prod.mk.inj h).2
        have e_29 := (Prod.mk.inj h).1
        have h := (Prod.mk.inj h).2
        have e_30 := (Prod.mk.inj h).1
        have h := (Prod.mk.inj h).2
        have e_31 := (Prod.mk.inj h).1
        have h := (Prod.mk.inj h).2
        have e_32 := (Prod.mk.inj h).1
        have h := (Prod.mk.inj h).2
        have e_33 := (Prod.mk.inj h).1
        have h := (Prod.mk.inj h).2
        rw [← e_0, ← e_1, ← e_2, ← e_3, ← e_4, ← e_5, ← e_6, ← e_7, ← e_8, ← e_9, ← e_10, ← e_11, ← e_12, ← e_13, ← e_14, ← e_15, ← e_16, ← e_17, ← e_18, ← e_19, ← e_20, ← e_21, ← e_22, ← e_23, ← e_24, ← e_25, ← e_26, ← e_27, ← e_28, ← e_29, ← e_30, ← e_31, ← e_32, ← e_33, ← h]
        exact jr_i J hS hP hD rfl d_MD_load_127
      · replace h := g_f c_3 h
        refine lv_aload_n J.1 J.2.1 d_MD_load_117 rfl (lv_at hl 0 rfl) ?_
        refine lv_iload_n J.1 J.2.1 d_MD_load_118 rfl (lv_at hl 2 rfl) ?_
        refine lv_iconst (v := 1) J.1 J.2.1 d_MD_load_119 (by decide) ?_
        replace h := g_bd h
        obtain ⟨⟨r_4, zat_4, zline_4, zlabels_4, zfault_4, zfaultLine_4, zaddress_4, zmissing_4, zgood_4, zvalue_4, zvalueFrom_4, zvalueSize_4, zlabelFrom_4, zlabelSize_4, zlabelAddress_4, zmade_4⟩, q_4, h⟩ := h
        try dsimp only at h
        have hq := ct_MD_lines l E n0 n_base n_bound n_depth n_disk n_halted n_isThere n_labelAddress n_labelFrom n_labelSize n_made n_memory n_mode n_output n_outs n_pc n_ranOut n_register n_size n_steps n_tape n_timer n_typed n_waits n_wants H.size ztaped zat_2 zend zline_2 zlabels_2 zfault_2 zfaultLine_2 zisTold zaddress_2 zmissing_2 zgood_2 zvalue_2 zvalueFrom_2 zvalueSize_2 zme ztape zwants zlabelFrom_2 zlabelSize_2 zlabelAddress_2 zmade_2 x2 1 r_4 zat_4 zline_4 zlabels_4 zfault_4 zfaultLine_4 zaddress_4 zmissing_4 zgood_4 zvalue_4 zvalueFrom_4 zvalueSize_4 zlabelFrom_4 zlabelSize_4 zlabelAddress_4 zmade_4 q_4
        have hr := jrunV (p := p) (e := e) (below := below) (R := ({ frames := 5, cells := 0, slots := 0, locals := 117 })) (cells := 0) (slots := 0) (As := [.int x2, .int 1]) (rest := []) J hJ hA hZ hP hD hS hq [0, 1, 18, 19, 20, 21, 22] rfl (by decide) gl_MD_253 gi_MD_lines gsel_MD_lines gini_MD gc_MD_lines hd_MD_lines ⟨rfl, rfl, Nat.le_of_ble_eq_true rfl, Nat.le_of_ble_eq_true rfl⟩ rfl rfl hl.1 rfl rfl (Nat.le_of_ble_eq_true rfl) d_MD_load_120 ⟨Nat.zero_le _, Nat.zero_le _⟩
        clear hq
        refine jk_i hr hA hP hD hS [0, 1, 18, 19, 20, 21, 22] [2, 3, 4, 5, 6, 7, 8, 9, 10, 11, 12, 13, 14, 15, 16, 17] (WR := [(n_isThere, .inl (E.2.1 3, 3, .inl zisThere)), (n_size, .inl (E.2.1 0, 3, .inl zsize)), (n_depth, .inl (E.2.1 0, 3, .inl zdepth)), (n_memory, .inl (E.2.1 0, 3072, .inl zmemory)), (n_register, .inl (E.2.1 0, 24, .inl zregister)), (n_mode, .inl (E.2.1 0, 3, .inl zmode)), (n_pc, .inl (E.2.1 0, 3, .inl zpc)), (n_base, .inl (E.2.1 0, 3, .inl zbase)), (n_bound, .inl (E.2.1 0, 3, .inl zbound)), (n_timer, .inl (E.2.1 0, 3, .inl ztimer)), (n_ranOut, .inl (E.2.1 3, 3, .inl zranOut)), (n_halted, .inl (E.2.1 3, 3, .inl zhalted)), (n_steps, .inl (E.2.1 0, 3, .inl zsteps)), (n_outs, .inl (E.2.1 0, 3, .inl zouts)), (n_waits, .inl (E.2.1 0, 3, .inl zwaits)), (n_disk, .inl (E.2.1 0, 384, .inl zdisk))]) rfl rfl (by decide) (by decide) [16, 17, 0, 1, 2, 3, 4, 5, 6, 7, 8, 9, 10, 11, 12, 13, 14, 15, 18, 19, 20, 21, 22] (WF := [(n0, .inr (6, [.ref n_tape, .int ztaped, .ref n_isThere, .ref n_size, .ref n_depth, .ref n_memory, .ref n_register, .ref n_mode, .ref n_pc, .ref n_base, .ref n_bound, .ref n_timer, .ref n_ranOut, .ref n_halted, .ref n_steps, .ref n_outs, .ref n_output, .ref n_waits, .ref n_typed, .ref n_disk, .ref n_wants, .int zat_4, .int zend, .int zline_4, .ref n_labelFrom, .ref n_labelSize, .ref n_labelAddress, .int zlabels_4, .int zfault_4, .int zfaultLine_4, .int zisTold, .int zaddress_4, .ref n_made, .int zmissing_4, .int zgood_4, .int zvalue_4, .int zvalueFrom_4, .int zvalueSize_4, .int zme])), (n_tape, .inl (E.2.1 2, 3000, .inl ztape)), (n_isThere, .inl (E.2.1 3, 3, .inl zisThere)), (n_size, .inl (E.2.1 0, 3, .inl zsize)), (n_depth, .inl (E.2.1 0, 3, .inl zdepth)), (n_memory, .inl (E.2.1 0, 3072, .inl zmemory)), (n_register, .inl (E.2.1 0, 24, .inl zregister)), (n_mode, .inl (E.2.1 0, 3, .inl zmode)), (n_pc, .inl (E.2.1 0, 3, .inl zpc)), (n_base, .inl (E.2.1 0, 3, .inl zbase)), (n_bound, .inl (E.2.1 0, 3, .inl zbound)), (n_timer, .inl (E.2.1 0, 3, .inl ztimer)), (n_ranOut, .inl (E.2.1 3, 3, .inl zranOut)), (n_halted, .inl (E.2.1 3, 3, .inl zhalted)), (n_steps, .inl (E.2.1 0, 3, .inl zsteps)), (n_outs, .inl (E.2.1 0, 3, .inl zouts)), (n_waits, .inl (E.2.1 0, 3, .inl zwaits)), (n_disk, .inl (E.2.1 0, 384, .inl zdisk)), (n_wants, .inl (E.2.1 0, 25, .inl zwants)), (n_labelFrom, .inl (E.2.1 0, 100, .inl zlabelFrom_4)), (n_labelSize, .inl (E.2.1 0, 100, .inl zlabelSize_4)), (n_labelAddress, .inl (E.2.1 0, 100, .inl zlabelAddress_4)), (n_made, .inl (E.2.1 0, 1024, .inl zmade_4))]) rfl (by decide) ?_
        clear hP hD hS
        intro H locs hP hD hS
        clear hr
        refine lv_if_ne (tgt := 128) J.1 J.2.1 d_MD_load_123 (by decide) (fun c_5 => ?_) (fun c_5 => ?_)
        · replace h := g_f c_5 h
          refine lv_aload_n J.1 J.2.1 d_MD_load_128 rfl (lv_at hl 0 rfl) ?_
          refine jg J hJ hP 0 rfl rfl i_MD 33 (by decide) gf_MD_208 rfl d_MD_load_129 ?_
          refine lv_if_le (tgt := 150) J.1 J.2.1 d_MD_load_132 (by decide) (fun c_6 => ?_) (fun c_6 => ?_)
          · replace h := g_t c_6 h
            refine lv_aload_n J.1 J.2.1 d_MD_load_150 rfl (lv_at hl 0 rfl) ?_
            refine lv_iload_n J.1 J.2.1 d_MD_load_151 rfl (lv_at hl 1 rfl) ?_
            refine lv_iload_n J.1 J.2.1 d_MD_load_152 rfl (lv_at hl 2 rfl) ?_
            refine lv_iload_n J.1 J.2.1 d_MD_load_153 rfl (lv_at hl 3 rfl) ?_
            replace h := g_bd h
            obtain ⟨⟨zisThere_7, zsize_7, zdepth_7, zmemory_7, zregister_7, zmode_7, zpc_7, zbase_7, zbound_7, ztimer_7, zranOut_7, zhalted_7, zsteps_7, zouts_7, zwaits_7, zdisk_7⟩, q_7, h⟩ := h
            try dsimp only at h
            have hq := ct_MD_begin l E n0 n_base n_bound n_depth n_disk n_halted n_isThere n_labelAddress n_labelFrom n_labelSize n_made n_memory n_mode n_output n_outs n_pc n_ranOut n_register n_size n_steps n_tape n_timer n_typed n_waits n_wants H.size ztaped zat_4 zend zline_4 zlabels_4 zfault_4 zfaultLine_4 zisTold zaddress_4 zmissing_4 zgood_4 zvalue_4 zvalueFrom_4 zvalueSize_4 zme zisThere zsize zdepth zmemory zregister zmode zpc zbase zbound ztimer zranOut zhalted zsteps zouts zwaits zdisk zmade_4 x1 x2 x3 zisThere_7 zsize_7 zdepth_7 zmemory_7 zregister_7 zmode_7 zpc_7 zbase_7 zbound_7 ztimer_7 zranOut_7 zhalted_7 zsteps_7 zouts_7 zwaits_7 zdisk_7 q_7
            have hr := jrunV (p := p) (e := e) (below := below) (R := ({ frames := 5, cells := 0, slots := 0, locals := 117 })) (cells := 0) (slots := 0) (As := [.int x1, .int x2, .int x3]) (rest := []) J hJ hA hZ hP hD hS hq [0, 2, 3, 4, 5, 6, 7, 8, 9, 10, 11, 12, 13, 14, 15, 16, 17, 22] rfl (by decide) gl_MD_257 gi_MD_begin gsel_MD_begin gini_MD gc_MD_begin hd_MD_begin ⟨rfl, rfl, Nat.le_of_ble_eq_true rfl, Nat.le_of_ble_eq_true rfl⟩ rfl rfl hl.1 rfl rfl (Nat.le_of_ble_eq_true rfl) d_MD_load_154 ⟨Nat.zero_le _, Nat.zero_le _⟩
            clear hq
            refine jk_v hr hA hP hD hS [0, 2, 3, 4, 5, 6, 7, 8, 9, 10, 11, 12, 13, 14, 15, 16, 17, 22] [1, 18, 19, 20, 21] (WR := [(n_tape, .inl (E.2.1 2, 3000, .inl ztape)), (n_wants, .inl (E.2.1 0, 25, .inl zwants)), (n_labelFrom, .inl (E.2.1 0, 100, .inl zlabelFrom_4)), (n_labelSize, .inl (E.2.1 0, 100, .inl zlabelSize_4)), (n_labelAddress, .inl (E.2.1 0, 100, .inl zlabelAddress_4))]) rfl rfl (by decide) (by decide) [5, 0, 6, 7, 8, 9, 10, 11, 12, 13, 14, 15, 16, 17, 18, 19, 20, 21, 1, 2, 3, 4, 22] (WF := [(n0, .inr (6, [.ref n_tape, .int ztaped, .ref n_isThere, .ref n_size, .ref n_depth, .ref n_memory, .ref n_register, .ref n_mode, .ref n_pc, .ref n_base, .ref n_bound, .ref n_timer, .ref n_ranOut, .ref n_halted, .ref n_steps, .ref n_outs, .ref n_output, .ref n_waits, .ref n_typed, .ref n_disk, .ref n_wants, .int zat_4, .int zend, .int zline_4, .ref n_labelFrom, .ref n_labelSize, .ref n_labelAddress, .int zlabels_4, .int zfault_4, .int zfaultLine_4, .int zisTold, .int zaddress_4, .ref n_made, .int zmissing_4, .int zgood_4, .int zvalue_4, .int zvalueFrom_4, .int zvalueSize_4, .int zme])), (n_tape, .inl (E.2.1 2, 3000, .inl ztape)), (n_isThere, .inl (E.2.1 3, 3, .inl zisThere_7)), (n_size, .inl (E.2.1 0, 3, .inl zsize_7)), (n_depth, .inl (E.2.1 0, 3, .inl zdepth_7)), (n_memory, .inl (E.2.1 0, 3072, .inl zmemory_7)), (n_register, .inl (E.2.1 0, 24, .inl zregister_7)), (n_mode, .inl (E.2.1 0, 3, .inl zmode_7)), (n_pc, .inl (E.2.1 0, 3, .inl zpc_7)), (n_base, .inl (E.2.1 0, 3, .inl zbase_7)), (n_bound, .inl (E.2.1 0, 3, .inl zbound_7)), (n_timer, .inl (E.2.1 0, 3, .inl ztimer_7)), (n_ranOut, .inl (E.2.1 3, 3, .inl zranOut_7)), (n_halted, .inl (E.2.1 3, 3, .inl zhalted_7)), (n_steps, .inl (E.2.1 0, 3, .inl zsteps_7)), (n_outs, .inl (E.2.1 0, 3, .inl zouts_7)), (n_waits, .inl (E.2.1 0, 3, .inl zwaits_7)), (n_disk, .inl (E.2.1 0, 384, .inl zdisk_7)), (n_wants, .inl (E.2.1 0, 25, .inl zwants)), (n_labelFrom, .inl (E.2.1 0, 100, .inl zlabelFrom_4)), (n_labelSize, .inl (E.2.1 0, 100, .inl zlabelSize_4)), (n_labelAddress, .inl (E.2.1 0, 100, .inl zlabelAddress_4)), (n_made, .inl (E.2.1 0, 1024, .inl zmade_4))]) rfl (by decide) ?_
            clear hP hD hS
            intro H locs hP hD hS
            clear hr
            refine lv_aload_n J.1 J.2.1 d_MD_load_157 rfl (lv_at hl 0 rfl) ?_
            refine jg J hJ hP 0 rfl rfl i_MD 31 (by decide) gf_MD_214 rfl d_MD_load_158 ?_
            have h := Option.some.inj h
            have e_0 := (Prod.mk.inj h).1
            have h := (Prod.mk.inj h).2
            have e_1 := (Prod.mk.inj h).1
            have h := (Prod.mk.inj h).2
            have e_2 := (Prod.mk.inj h).1
            have h := (Prod.mk.inj h).2
            have e_3 := (Prod.mk.inj h).1
            have h := (Prod.mk.inj h).2
            have e_4 := (Prod.mk.inj h).1
            have h := (Prod.mk.inj h).2
            have e_5 := (Prod.mk.inj h).1
            have h := (Prod.mk.inj h).2
            have e_6 := (Prod.mk.inj h).1
            have h := (Prod.mk.inj h).2
            have e_7 := (Prod.mk.inj h).1
            have h := (Prod.mk.inj h).2
            have e_8 := (Prod.mk.inj h).1
            have h := (Prod.mk.inj h).2
            have e_9 := (Prod.mk.inj h).1
            have h := (Prod.mk.inj h).2
            have e_10 := (Prod.mk.inj h).1
            have h := (Prod.mk.inj h).2
            have e_11 := (Prod.mk.inj h).1
            have h := (Prod.mk.inj h).2
            have e_12 := (Prod.mk.inj h).1
            have h := (Prod.mk.inj h).2
            have e_13 := (Prod.mk.inj h).1
            have h := (Prod.mk.inj h).2
            have e_14 := (Prod.mk.inj h).1
            have h := (Prod.mk.inj h).2
            have e_15 := (Prod.mk.inj h).1
            have h := (Prod.mk.inj h).2
            have e_16 := (Prod.mk.inj h).1
            have h := (Prod.mk.inj h).2
            have e_17 := (Prod.mk.inj h).1
            have h := (Prod.mk.inj h).2
            have e_18 := (Prod.mk.inj h).1
            have h := (Prod.mk.inj h).2
            have e_19 := (Prod.mk.inj h).1
            have h := (Prod.mk.inj h).2
            have e_20 := (Prod.mk.inj h).1
            have h := (Prod.mk.inj h).2
            have e_21 := (Prod.mk.inj h).1
            have h := (Prod.mk.inj h).2
            have e_22 := (Prod.mk.inj h).1
            have h := (Prod.mk.inj h).2
            have e_23 := (Prod.mk.inj h).1
            have h := (Prod.mk.inj h).2
            have e_24 := (Prod.mk.inj h).1
            have h := (Prod.mk.inj h).2
            have e_25 := (Prod.mk.inj h).1
            have h := (Prod.mk.inj h).2
            have e_26 := (Prod.mk.inj h).1
            have h := (Prod.mk.inj h).2
            have e_27 := (Prod.mk.inj h).1
            have h := (Prod.mk.inj h).2
            have e_28 := (Prod.mk.inj h).1
            have h := (Prod.mk.inj h).2
            have e_29 := (Prod.mk.inj h).1
            have h := (Prod.mk.inj h).2
            have e_30 := (Prod.mk.inj h).1
            have h := (Prod.mk.inj h).2
            have e_31 := (Prod.mk.inj h).1
            have h := (Prod.mk.inj h).2
            have e_32 := (Prod.mk.inj h).1
            have h := (Prod.mk.inj h).2
            have e_33 := (Prod.mk.inj h).1
            have h := (Prod.mk.inj h).2
            rw [← e_0, ← e_1, ← e_2, ← e_3, ← e_4, ← e_5, ← e_6, ← e_7, ← e_8, ← e_9, ← e_10, ← e_11, ← e_12, ← e_13, ← e_14, ← e_15, ← e_16, ← e_17, ← e_18, ← e_19, ← e_20, ← e_21, ← e_22, ← e_23, ← e_24, ← e_25, ← e_26, ← e_27, ← e_28, ← e_29, ← e_30, ← e_31, ← e_32, ← e_33, ← h]
            exact jr_i J hS hP hD rfl d_MD_load_161
          · replace h := g_f c_6 h
            refine lv_aload_n J.1 J.2.1 d_MD_load_135 rfl (lv_at hl 0 rfl) ?_
            refine lv_iconst (v := 5) J.1 J.2.1 d_MD_load_136 (by decide) ?_
            refine jp J hJ hP hD hS 0 rfl rfl i_MD t_MD t_MD_ok n_MD 28 (by decide) gf_MD_240 rfl rfl rfl (Nat.le_of_ble_eq_true rfl) d_MD_load_137 (WS' := [(n0, .inr (6, [.ref n_tape, .int ztaped, .ref n_isThere, .ref n_size, .ref n_depth, .ref n_memory, .ref n_register, .ref n_mode, .ref n_pc, .ref n_base, .ref n_bound, .ref n_timer, .ref n_ranOut, .ref n_halted, .ref n_steps, .ref n_outs, .ref n_output, .ref n_waits, .ref n_typed, .ref n_disk, .ref n_wants, .int zat_4, .int zend, .int zline_4, .ref n_labelFrom, .ref n_labelSize, .ref n_labelAddress, .int zlabels_4, .int 5, .int zfaultLine_4, .int zisTold, .int zaddress_4, .ref n_made, .int zmissing_4, .int zgood_4, .int zvalue_4, .int zvalueFrom_4, .int zvalueSize_4, .int zme])), (n_tape, .inl (E.2.1 2, 3000, .inl ztape)), (n_isThere, .inl (E.2.1 3, 3, .inl zisThere)), (n_size, .inl (E.2.1 0, 3, .inl zsize)), (n_depth, .inl (E.2.1 0, 3, .inl zdepth)), (n_memory, .inl (E.2.1 0, 3072, .inl zmemory)), (n_register, .inl (E.2.1 0, 24, .inl zregister)), (n_mode, .inl (E.2.1 0, 3, .inl zmode)), (n_pc, .inl (E.2.1 0, 3, .inl zpc)), (n_base, .inl (E.2.1 0, 3, .inl zbase)), (n_bound, .inl (E.2.1 0, 3, .inl zbound)), (n_timer, .inl (E.2.1 0, 3, .inl ztimer)), (n_ranOut, .inl (E.2.1 3, 3, .inl zranOut)), (n_halted, .inl (E.2.1 3, 3, .inl zhalted)), (n_steps, .inl (E.2.1 0, 3, .inl zsteps)), (n_outs, .inl (E.2.1 0, 3, .inl zouts)), (n_waits, .inl (E.2.1 0, 3, .inl zwaits)), (n_disk, .inl (E.2.1 0, 384, .inl zdisk)), (n_wants, .inl (E.2.1 0, 25, .inl zwants)), (n_labelFrom, .inl (E.2.1 0, 100, .inl zlabelFrom_4)), (n_labelSize, .inl (E.2.1 0, 100, .inl zlabelSize_4)), (n_labelAddress, .inl (E.2.1 0, 100, .inl zlabelAddress_4)), (n_made, .inl (E.2.1 0, 1024, .inl zmade_4))]) rfl ?_
            clear hP hD hS
            intro H locs hP hD hS
            refine lv_aload_n J.1 J.2.1 d_MD_load_140 rfl (lv_at hl 0 rfl) ?_
            refine lv_aload_n J.1 J.2.1 d_MD_load_141 rfl (lv_at hl 0 rfl) ?_
            refine jg J hJ hP 0 rfl rfl i_MD 33 (by decide) gf_MD_208 rfl d_MD_load_142 ?_
            refine jp J hJ hP hD hS 0 rfl rfl i_MD t_MD t_MD_ok n_MD 29 (by decide) gf_MD_243 rfl rfl rfl (Nat.le_of_ble_eq_true rfl) d_MD_load_145 (WS' := [(n0, .inr (6, [.ref n_tape, .int ztaped, .ref n_isThere, .ref n_size, .ref n_depth, .ref n_memory, .ref n_register, .ref n_mode, .ref n_pc, .ref n_base, .ref n_bound, .ref n_timer, .ref n_ranOut, .ref n_halted, .ref n_steps, .ref n_outs, .ref n_output, .ref n_waits, .ref n_typed, .ref n_disk, .ref n_wants, .int zat_4, .int zend, .int zline_4, .ref n_labelFrom, .ref n_labelSize, .ref n_labelAddress, .int zlabels_4, .int 5, .int zmissing_4, .int zisTold, .int zaddress_4, .ref n_made, .int zmissing_4, .int zgood_4, .int zvalue_4, .int zvalueFrom_4, .int zvalueSize_4, .int zme])), (n_tape, .inl (E.2.1 2, 3000, .inl ztape)), (n_isThere, .inl (E.2.1 3, 3, .inl zisThere)), (n_size, .inl (E.2.1 0, 3, .inl zsize)), (n_depth, .inl (E.2.1 0, 3, .inl zdepth)), (n_memory, .inl (E.2.1 0, 3072, .inl zmemory)), (n_register, .inl (E.2.1 0, 24, .inl zregister)), (n_mode, .inl (E.2.1 0, 3, .inl zmode)), (n_pc, .inl (E.2.1 0, 3, .inl zpc)), (n_base, .inl (E.2.1 0, 3, .inl zbase)), (n_bound, .inl (E.2.1 0, 3, .inl zbound)), (n_timer, .inl (E.2.1 0, 3, .inl ztimer)), (n_ranOut, .inl (E.2.1 3, 3, .inl zranOut)), (n_halted, .inl (E.2.1 3, 3, .inl zhalted)), (n_steps, .inl (E.2.1 0, 3, .inl zsteps)), (n_outs, .inl (E.2.1 0, 3, .inl zouts)), (n_waits, .inl (E.2.1 0, 3, .inl zwaits)), (n_disk, .inl (E.2.1 0, 384, .inl zdisk)), (n_wants, .inl (E.2.1 0, 25, .inl zwants)), (n_labelFrom, .inl (E.2.1 0, 100, .inl zlabelFrom_4)), (n_labelSize, .inl (E.2.1 0, 100, .inl zlabelSize_4)), (n_labelAddress, .inl (E.2.1 0, 100, .inl zlabelAddress_4)), (n_made, .inl (E.2.1 0, 1024, .inl zmade_4))]) rfl ?_
            clear hP hD hS
            intro H locs hP hD hS
            refine lv_iconst (v := (-1)) J.1 J.2.1 d_MD_load_148 (by decide) ?_
            have h := Option.some.inj h
            have e_0 := (Prod.mk.inj h).1
            have h := (Prod.mk.inj h).2
            have e_1 := (Prod.mk.inj h).1
            have h := (Prod.mk.inj h).2
            have e_2 := (Prod.mk.inj h).1
            have h := (Prod.mk.inj h).2
            have e_3 := (Prod.mk.inj h).1
            have h := (Prod.mk.inj h).2
            have e_4 := (Prod.mk.inj h).1
            have h := (Prod.mk.inj h).2
            have e_5 := (Prod.mk.inj h).1
            have h := (Prod.mk.inj h).2
            have e_6 := (Prod.mk.inj h).1
            have h := (Prod.mk.inj h).2
            have e_7 := (Prod.mk.inj h).1
            have h := (Prod.mk.inj h).2
            have e_8 := (Prod.mk.inj h).1
            have h := (Prod.mk.inj h).2
            have e_9 := (Prod.mk.inj h).1
            have h := (Prod.mk.inj h).2
            have e_10 := (Prod.mk.inj h).1
            have h := (Prod.mk.inj h).2
            have e_11 := (Prod.mk.inj h).1
            have h := (Prod.mk.inj h).2
            have e_12 := (Prod.mk.inj h).1
            have h := (Prod.mk.inj h).2
            have e_13 := (Prod.mk.inj h).1
            have h := (Prod.mk.inj h).2
            have e_14 := (Prod.mk.inj h).1
            have h := (Prod.mk.inj h).2
            have e_15 := (Prod.mk.inj h).1
            have h := (Prod.mk.inj h).2
            have e_16 := (Prod.mk.inj h).1
            have h := (Prod.mk.inj h).2
            have e_17 := (Prod.mk.inj h).1
            have h := (Prod.mk.inj h).2
            have e_18 := (Prod.mk.inj h).1
            have h := (Prod.mk.inj h).2
            have e_19 := (Prod.mk.inj h).1
            have h := (Prod.mk.inj h).2
            have e_20 := (Prod.mk.inj h).1
            have h := (Prod.mk.inj h).2
            have e_21 := (Prod.mk.inj h).1
            have h := (Prod.mk.inj h).2
            have e_22 := (Prod.mk.inj h).1
            have h := (Prod.mk.inj h).2
            have e_23 := (Prod.mk.inj h).1
            have h := (Prod.mk.inj h).2
            have e_24 := (Prod.mk.inj h).1
            have h := (Prod.mk.inj h).2
            have e_25 := (Prod.mk.inj h).1
            have h := (Prod.mk.inj h).2
            have e_26 := (Prod.mk.inj h).1
            have h := (Prod.mk.inj h).2
            have e_27 := (Prod.mk.inj h).1
            have h := (Prod.mk.inj h).2
            have e_28 := (Prod.mk.inj h).1
            have h := (Prod.mk.inj h).2
            have e_29 := (Prod.mk.inj h).1
            have h := (Prod.mk.inj h).2
            have e_30 := (Prod.mk.inj h).1
            have h := (Prod.mk.inj h).2
            have e_31 := (Prod.mk.inj h).1
            have h := (Prod.mk.inj h).2
            have e_32 := (Prod.mk.inj h).1
            have h := (Prod.mk.inj h).2
            have e_33 := (Prod.mk.inj h).1
            have h := (Prod.mk.inj h).2
            rw [← e_0, ← e_1, ← e_2, ← e_3, ← e_4, ← e_5, ← e_6, ← e_7, ← e_8, ← e_9, ← e_10, ← e_11, ← e_12, ← e_13, ← e_14, ← e_15, ← e_16, ← e_17, ← e_18, ← e_19, ← e_20, ← e_21, ← e_22, ← e_23, ← e_24, ← e_25, ← e_26, ← e_27, ← e_28, ← e_29, ← e_30, ← e_31, ← e_32, ← e_33, ← h]
            exact jr_i J hS hP hD rfl d_MD_load_149
        · replace h := g_t c_5 h
          refine lv_iconst (v := (-1)) J.1 J.2.1 d_MD_load_126 (by decide) ?_
          have h := Option.some.inj h
          have e_0 := (Prod.mk.inj h).1
          have h := (Prod.mk.inj h).2
          have e_1 := (Prod.mk.inj h).1
          have h := (Prod.mk.inj h).2
          have e_2 := (Prod.mk.inj h).1
          have h := (Prod.mk.inj h).2
          have e_3 := (Prod.mk.inj h).1
          have h := (Prod.mk.inj h).2
          have e_4 := (Prod.mk.inj h).1
          have h := (Prod.mk.inj h).2
          have e_5 := (Prod.mk.inj h).1
          have h := (Prod.mk.inj h).2
          have e_6 := (Prod.mk.inj h).1
          have h := (Prod.mk.inj h).2
          have e_7 := (Prod.mk.inj h).1
          have h := (Prod.mk.inj h).2
          have e_8 := (Prod.mk.inj h).1
          have h := (Prod.mk.inj h).2
          have e_9 := (Prod.mk.inj h).1
          have h := (Prod.mk.inj h).2
          have e_10 := (Prod.mk.inj h).1
          have h := (Prod.mk.inj h).2
          have e_11 := (Prod.mk.inj h).1
          have h := (Prod.mk.inj h).2
          have e_12 := (Prod.mk.inj h).1
          have h := (Prod.mk.inj h).2
          have e_13 := (Prod.mk.inj h).1
          have h := (Prod.mk.inj h).2
          have e_14 := (Prod.mk.inj h).1
          have h := (Prod.mk.inj h).2
          have e_15 := (Prod.mk.inj h).1
          have h := (Prod.mk.inj h).2
          have e_16 := (Prod.mk.inj h).1
          have h := (Prod.mk.inj h).2
          have e_17 := (Prod.mk.inj h).1
          have h := (Prod.mk.inj h).2
          have e_18 := (Prod.mk.inj h).1
          have h := (Prod.mk.inj h).2
          have e_19 := (Prod.mk.inj h).1
          have h := (Prod.mk.inj h).2
          have e_20 := (Prod.mk.inj h).1
          have h := (Prod.mk.inj h).2
          have e_21 := (Prod.mk.inj h).1
          have h := (Prod.mk.inj h).2
          have e_22 := (Prod.mk.inj h).1
          have h := (Prod.mk.inj h).2
          have e_23 := (Prod.mk.inj h).1
          have h := (Prod.mk.inj h).2
          have e_24 := (Prod.mk.inj h).1
          have h := (Prod.mk.inj h).2
          have e_25 := (Prod.mk.inj h).1
          have h := (Prod.mk.inj h).2
          have e_26 := (Prod.mk.inj h).1
          have h := (Prod.mk.inj h).2
          have e_27 := (Prod.mk.inj h).1
          have h := (Prod.mk.inj h).2
          have e_28 := (Prod.mk.inj h).1
          have h := (Prod.mk.inj h).2
          have e_29 := (Prod.mk.inj h).1
          have h := (Prod.mk.inj h).2
          have e_30 := (Prod.mk.inj h).1
          have h := (Prod.mk.inj h).2
          have e_31 := (Prod.mk.inj h).1
          have h := (Prod.mk.inj h).2
          have e_32 := (Prod.mk.inj h).1
          have h := (Prod.mk.inj h).2
          have e_33 := (Prod.mk.inj h).1
          have h := (Prod.mk.inj h).2
          rw [← e_0, ← e_1, ← e_2, ← e_3, ← e_4, ← e_5, ← e_6, ← e_7, ← e_8, ← e_9, ← e_10, ← e_11, ← e_12, ← e_13, ← e_14, ← e_15, ← e_16, ← e_17, ← e_18, ← e_19, ← e_20, ← e_21, ← e_22, ← e_23, ← e_24, ← e_25, ← e_26, ← e_27, ← e_28, ← e_29, ← e_30, ← e_31, ← e_32, ← e_33, ← h]
          exact jr_i J hS hP hD rfl d_MD_load_127
    · replace h := g_f c_1 h
      refine lv_aload_n J.1 J.2.1 d_MD_load_94 rfl (lv_at hl 0 rfl) ?_
      refine jg J hJ hP 0 rfl rfl i_MD 32 (by decide) gf_MD_89 rfl d_MD_load_95 ?_
      refine lv_iload J.1 J.2.1 d_MD_load_98 (lv_at hl 4 rfl) ?_
      refine lv_iconst (v := 0) J.1 J.2.1 d_MD_load_100 (by decide) ?_
      replace h := g_ck h
      obtain ⟨k_8, h⟩ := h
      refine jsi J hJ hP hD hS 22 rfl k_8 d_MD_load_101 (WS' := [(n0, .inr (6, [.ref n_tape, .int ztaped, .ref n_isThere, .ref n_size, .ref n_depth, .ref n_memory, .ref n_register, .ref n_mode, .ref n_pc, .ref n_base, .ref n_bound, .ref n_timer, .ref n_ranOut, .ref n_halted, .ref n_steps, .ref n_outs, .ref n_output, .ref n_waits, .ref n_typed, .ref n_disk, .ref n_wants, .int zat, .int zend, .int zline, .ref n_labelFrom, .ref n_labelSize, .ref n_labelAddress, .int zlabels, .int zfault, .int zfaultLine, .int zisTold, .int zaddress, .ref n_made, .int zmissing, .int zgood, .int zvalue, .int zvalueFrom, .int zvalueSize, .int zme])), (n_tape, .inl (E.2.1 2, 3000, .inl ztape)), (n_isThere, .inl (E.2.1 3, 3, .inl zisThere)), (n_size, .inl (E.2.1 0, 3, .inl zsize)), (n_depth, .inl (E.2.1 0, 3, .inl zdepth)), (n_memory, .inl (E.2.1 0, 3072, .inl zmemory)), (n_register, .inl (E.2.1 0, 24, .inl zregister)), (n_mode, .inl (E.2.1 0, 3, .inl zmode)), (n_pc, .inl (E.2.1 0, 3, .inl zpc)), (n_base, .inl (E.2.1 0, 3, .inl zbase)), (n_bound, .inl (E.2.1 0, 3, .inl zbound)), (n_timer, .inl (E.2.1 0, 3, .inl ztimer)), (n_ranOut, .inl (E.2.1 3, 3, .inl zranOut)), (n_halted, .inl (E.2.1 3, 3, .inl zhalted)), (n_steps, .inl (E.2.1 0, 3, .inl zsteps)), (n_outs, .inl (E.2.1 0, 3, .inl zouts)), (n_waits, .inl (E.2.1 0, 3, .inl zwaits)), (n_disk, .inl (E.2.1 0, 384, .inl zdisk)), (n_wants, .inl (E.2.1 0, 25, .inl zwants)), (n_labelFrom, .inl (E.2.1 0, 100, .inl zlabelFrom)), (n_labelSize, .inl (E.2.1 0, 100, .inl zlabelSize)), (n_labelAddress, .inl (E.2.1 0, 100, .inl zlabelAddress)), (n_made, .inl (E.2.1 0, 1024, .inl (upd zmade x5.toNatClampNeg 0)))]) rfl ?_
      clear hP hD hS
      intro H locs hP hD hS
      refine lv_iinc (v := (x5 + 1)) (lv' := [(5, .int (x5 + 1)), (0, .ref n0), (1, .int x1), (2, .int x2), (3, .int x3)]) J.1 J.2.1 d_MD_load_102 hl (k := 4) rfl rfl (by decide) rfl ?_
      clear hl
      intro ls hl
      refine lv_goto (tgt := 86) J.1 J.2.1 d_MD_load_105 (by decide) ?_
      exact ih _ _ _ _ _ _ _ _ _ _ _ _ _ _ _ _ _ _ _ _ _ _ _ _ _ _ _ _ _ _ _ _ _ _ _ _ _ _ _ _ _ _ _ _ h hP hD hS (lv_sub hl [1, 2, 3, 4, 0] rfl)
set_option maxHeartbeats 4000000 in
set_option maxRecDepth 100000 in
theorem ct_MD_load (l : Launch) (E : jz_E) (n0 n_base n_bound n_depth n_disk n_halted n_isThere n_labelAddress n_labelFrom n_labelSize n_made n_memory n_mode n_output n_outs n_pc n_ranOut n_register n_size n_steps n_tape n_timer n_typed n_waits n_wants : Nat) (sz : Nat) (ztaped : Int32) (zat : Int32) (zend : Int32) (zline : Int32) (zlabels : Int32) (zfault : Int32) (zfaultLine : Int32) (zisTold : Int32) (zaddress : Int32) (zmissing : Int32) (zgood : Int32) (zvalue : Int32) (zvalueFrom : Int32) (zvalueSize : Int32) (zme : Int32) (ztape : Nat → Int32) (zisThere : Nat → Int32) (zsize : Nat → Int32) (zdepth : Nat → Int32) (zmemory : Nat → Int32) (zregister : Nat → Int32) (zmode : Nat → Int32) (zpc : Nat → Int32) (zbase : Nat → Int32) (zbound : Nat → Int32) (ztimer : Nat → Int32) (zranOut : Nat → Int32) (zhalted : Nat → Int32) (zsteps : Nat → Int32) (zouts : Nat → Int32) (zwaits : Nat → Int32) (zdisk : Nat → Int32) (zwants : Nat → Int32) (zlabelFrom : Nat → Int32) (zlabelSize : Nat → Int32) (zlabelAddress : Nat → Int32) (zmade : Nat → Int32) (p1 : Int32) (p2 : Int32) (p3 : Int32) (p4 : Int32) (o_r : Int32) (o_ztaped : Int32) (o_zat : Int32) (o_zend : Int32) (o_zline : Int32) (o_zlabels : Int32) (o_zfault : Int32) (o_zfaultLine : Int32) (o_zisTold : Int32) (o_zaddress : Int32) (o_zmissing : Int32) (o_zgood : Int32) (o_zvalue : Int32) (o_zvalueFrom : Int32) (o_zvalueSize : Int32) (o_zisThere : Nat → Int32) (o_zsize : Nat → Int32) (o_zdepth : Nat → Int32) (o_zmemory : Nat → Int32) (o_zregister : Nat → Int32) (o_zmode : Nat → Int32) (o_zpc : Nat → Int32) (o_zbase : Nat → Int32) (o_zbound : Nat → Int32) (o_ztimer : Nat → Int32) (o_zranOut : Nat → Int32) (o_zhalted : Nat → Int32) (o_zsteps : Nat → Int32) (o_zouts : Nat → Int32) (o_zwaits : Nat → Int32) (o_zdisk : Nat → Int32) (o_zlabelFrom : Nat → Int32) (o_zlabelSize : Nat → Int32) (o_zlabelAddress : Nat → Int32) (o_zmade : Nat → Int32)  (h : f_MD_load ztaped zat zend zline zlabels zfault zfaultLine zisTold zaddress zmissing zgood zvalue zvalueFrom zvalueSize ztape zisThere zsize zdepth zmemory zregister zmode zpc zbase zbound ztimer zranOut zhalted zsteps zouts zwaits zdisk zwants zlabelFrom zlabelSize zlabelAddress zmade p1 p2 p3 p4 = some (o_r, o_ztaped, o_zat, o_zend, o_zline, o_zlabels, o_zfault, o_zfaultLine, o_zisTold, o_zaddress, o_zmissing, o_zgood, o_zvalue, o_zvalueFrom, o_zvalueSize, o_zisThere, o_zsize, o_zdepth, o_zmemory, o_zregister, o_zmode, o_zpc, o_zbase, o_zbound, o_ztimer, o_zranOut, o_zhalted, o_zsteps, o_zouts, o_zwaits, o_zdisk, o_zlabelFrom, o_zlabelSize, o_zlabelAddress, o_zmade)) : CTi l E y_MD_load c_MD_load 6 (some .int) ({ frames := 5, cells := 0, slots := 0, locals := 117 }) [.ref n0, .int p1, .int p2, .int p3, .int p4] [(n0, .inr (6, [.ref n_tape, .int ztaped, .ref n_isThere, .ref n_size, .ref n_depth, .ref n_memory, .ref n_register, .ref n_mode, .ref n_pc, .ref n_base, .ref n_bound, .ref n_timer, .ref n_ranOut, .ref n_halted, .ref n_steps, .ref n_outs, .ref n_output, .ref n_waits, .ref n_typed, .ref n_disk, .ref n_wants, .int zat, .int zend, .int zline, .ref n_labelFrom, .ref n_labelSize, .ref n_labelAddress, .int zlabels, .int zfault, .int zfaultLine, .int zisTold, .int zaddress, .ref n_made, .int zmissing, .int zgood, .int zvalue, .int zvalueFrom, .int zvalueSize, .int zme])), (n_tape, .inl (E.2.1 2, 3000, .inl ztape)), (n_isThere, .inl (E.2.1 3, 3, .inl zisThere)), (n_size, .inl (E.2.1 0, 3, .inl zsize)), (n_depth, .inl (E.2.1 0, 3, .inl zdepth)), (n_memory, .inl (E.2.1 0, 3072, .inl zmemory)), (n_register, .inl (E.2.1 0, 24, .inl zregister)), (n_mode, .inl (E.2.1 0, 3, .inl zmode)), (n_pc, .inl (E.2.1 0, 3, .inl zpc)), (n_base, .inl (E.2.1 0, 3, .inl zbase)), (n_bound, .inl (E.2.1 0, 3, .inl zbound)), (n_timer, .inl (E.2.1 0, 3, .inl ztimer)), (n_ranOut, .inl (E.2.1 3, 3, .inl zranOut)), (n_halted, .inl (E.2.1 3, 3, .inl zhalted)), (n_steps, .inl (E.2.1 0, 3, .inl zsteps)), (n_outs, .inl (E.2.1 0, 3, .inl zouts)), (n_waits, .inl (E.2.1 0, 3, .inl zwaits)), (n_disk, .inl (E.2.1 0, 384, .inl zdisk)), (n_wants, .inl (E.2.1 0, 25, .inl zwants)), (n_labelFrom, .inl (E.2.1 0, 100, .inl zlabelFrom)), (n_labelSize, .inl (E.2.1 0, 100, .inl zlabelSize)), (n_labelAddress, .inl (E.2.1 0, 100, .inl zlabelAddress)), (n_made, .inl (E.2.1 0, 1024, .inl zmade))] sz o_r [(n0, .inr (6, [.ref n_tape, .int o_ztaped, .ref n_isThere, .ref n_size, .ref n_depth, .ref n_memory, .ref n_register, .ref n_mode, .ref n_pc, .ref n_base, .ref n_bound, .ref n_timer, .ref n_ranOut, .ref n_halted, .ref n_steps, .ref n_outs, .ref n_output, .ref n_waits, .ref n_typed, .ref n_disk, .ref n_wants, .int o_zat, .int o_zend, .int o_zline, .ref n_labelFrom, .ref n_labelSize, .ref n_labelAddress, .int o_zlabels, .int o_zfault, .int o_zfaultLine, .int o_zisTold, .int o_zaddress, .ref n_made, .int o_zmissing, .int o_zgood, .int o_zvalue, .int o_zvalueFrom, .int o_zvalueSize, .int zme])), (n_tape, .inl (E.2.1 2, 3000, .inl ztape)), (n_isThere, .inl (E.2.1 3, 3, .inl o_zisThere)), (n_size, .inl (E.2.1 0, 3, .inl o_zsize)), (n_depth, .inl (E.2.1 0, 3, .inl o_zdepth)), (n_memory, .inl (E.2.1 0, 3072, .inl o_zmemory)), (n_register, .inl (E.2.1 0, 24, .inl o_zregister)), (n_mode, .inl (E.2.1 0, 3, .inl o_zmode)), (n_pc, .inl (E.2.1 0, 3, .inl o_zpc)), (n_base, .inl (E.2.1 0, 3, .inl o_zbase)), (n_bound, .inl (E.2.1 0, 3, .inl o_zbound)), (n_timer, .inl (E.2.1 0, 3, .inl o_ztimer)), (n_ranOut, .inl (E.2.1 3, 3, .inl o_zranOut)), (n_halted, .inl (E.2.1 3, 3, .inl o_zhalted)), (n_steps, .inl (E.2.1 0, 3, .inl o_zsteps)), (n_outs, .inl (E.2.1 0, 3, .inl o_zouts)), (n_waits, .inl (E.2.1 0, 3, .inl o_zwaits)), (n_disk, .inl (E.2.1 0, 384, .inl o_zdisk)), (n_wants, .inl (E.2.1 0, 25, .inl zwants)), (n_labelFrom, .inl (E.2.1 0, 100, .inl o_zlabelFrom)), (n_labelSize, .inl (E.2.1 0, 100, .inl o_zlabelSize)), (n_labelAddress, .inl (E.2.1 0, 100, .inl o_zlabelAddress)), (n_made, .inl (E.2.1 0, 1024, .inl o_zmade))] := by
  refine jw (by decide +kernel) (Nat.le_of_ble_eq_true rfl) ?_
  intro p e s m below meth c A ls J hJ hAe hsz hA hZ hP hD hl
  rw [← hAe]
  have hS : va_S A s.heap s.heap [] := va_S.rf
  have hl : lv_has ls 6 [(0, .ref n0), (1, .int p1), (2, .int p2), (3, .int p3), (4, .int p4)] := hl
  unfold f_MD_load at h
  refine lv_iload_n J.1 J.2.1 d_MD_load_0 rfl (lv_at hl 1 rfl) ?_
  refine lv_iconst (v := 0) J.1 J.2.1 d_MD_load_1 (by decide) ?_
  refine lv_iconst (v := 2) J.1 J.2.1 d_MD_load_2 (by decide) ?_
  replace h := g_bd h
  obtain ⟨r_9, q_9, h⟩ := h
  have hq := ct_MD_in l E  s.heap.size  p1 0 2 r_9 q_9
  have hr := jrunS (p := p) (e := e) (below := below) (R := ({ frames := 5, cells := 0, slots := 0, locals := 117 })) (cells := 0) (slots := 0) (As := [.int p1, .int 0, .int 2]) (rest := []) J hJ hA hZ hP hD hS hq [] rfl (by decide) gl_MD_246 gs_MD_in gini_MD gc_MD_in hd_MD_in ⟨rfl, rfl, Nat.le_of_ble_eq_true rfl, Nat.le_of_ble_eq_true rfl⟩ hl.1 rfl rfl (Nat.le_of_ble_eq_true rfl) d_MD_load_3 ⟨Nat.zero_le _, Nat.zero_le _⟩
  clear hq
  refine jk_i hr hA hP hD hS [] [0, 1, 2, 3, 4, 5, 6, 7, 8, 9, 10, 11, 12, 13, 14, 15, 16, 17, 18, 19, 20, 21, 22] (WR := [(n0, .inr (6, [.ref n_tape, .int ztaped, .ref n_isThere, .ref n_size, .ref n_depth, .ref n_memory, .ref n_register, .ref n_mode, .ref n_pc, .ref n_base, .ref n_bound, .ref n_timer, .ref n_ranOut, .ref n_halted, .ref n_steps, .ref n_outs, .ref n_output, .ref n_waits, .ref n_typed, .ref n_disk, .ref n_wants, .int zat, .int zend, .int zline, .ref n_labelFrom, .ref n_labelSize, .ref n_labelAddress, .int zlabels, .int zfault, .int zfaultLine, .int zisTold, .int zaddress, .ref n_made, .int zmissing, .int zgood, .int zvalue, .int zvalueFrom, .int zvalueSize, .int zme])), (n_tape, .inl (E.2.1 2, 3000, .inl ztape)), (n_isThere, .inl (E.2.1 3, 3, .inl zisThere)), (n_size, .inl (E.2.1 0, 3, .inl zsize)), (n_depth, .inl (E.2.1 0, 3, .inl zdepth)), (n_memory, .inl (E.2.1 0, 3072, .inl zmemory)), (n_register, .inl (E.2.1 0, 24, .inl zregister)), (n_mode, .inl (E.2.1 0, 3, .inl zmode)), (n_pc, .inl (E.2.1 0, 3, .inl zpc)), (n_base, .inl (E.2.1 0, 3, .inl zbase)), (n_bound, .inl (E.2.1 0, 3, .inl zbound)), (n_timer, .inl (E.2.1 0, 3, .inl ztimer)), (n_ranOut, .inl (E.2.1 3, 3, .inl zranOut)), (n_halted, .inl (E.2.1 3, 3, .inl zhalted)), (n_steps, .inl (E.2.1 0, 3, .inl zsteps)), (n_outs, .inl (E.2.1 0, 3, .inl zouts)), (n_waits, .inl (E.2.1 0, 3, .inl zwaits)), (n_disk, .inl (E.2.1 0, 384, .inl zdisk)), (n_wants, .inl (E.2.1 0, 25, .inl zwants)), (n_labelFrom, .inl (E.2.1 0, 100, .inl zlabelFrom)), (n_labelSize, .inl (E.2.1 0, 100, .inl zlabelSize)), (n_labelAddress, .inl (E.2.1 0, 100, .inl zlabelAddress)), (n_made, .inl (E.2.1 0, 1024, .inl zmade))]) rfl rfl (by decide) (by decide) [0, 1, 2, 3, 4, 5, 6, 7, 8, 9, 10, 11, 12, 13, 14, 15, 16, 17, 18, 19, 20, 21, 22] (WF := [(n0, .inr (6, [.ref n_tape, .int ztaped, .ref n_isThere, .ref n_size, .ref n_depth, .ref n_memory, .ref n_register, .ref n_mode, .ref n_pc, .ref n_base, .ref n_bound, .ref n_timer, .ref n_ranOut, .ref n_halted, .ref n_steps, .ref n_outs, .ref n_output, .ref n_waits, .ref n_typed, .ref n_disk, .ref n_wants, .int zat, .int zend, .int zline, .ref n_labelFrom, .ref n_labelSize, .ref n_labelAddress, .int zlabels, .int zfault, .int zfaultLine, .int zisTold, .int zaddress, .ref n_made, .int zmissing, .int zgood, .int zvalue, .int zvalueFrom, .int zvalueSize, .int zme])), (n_tape, .inl (E.2.1 2, 3000, .inl ztape)), (n_isThere, .inl (E.2.1 3, 3, .inl zisThere)), (n_size, .inl (E.2.1 0, 3, .inl zsize)), (n_depth, .inl (E.2.1 0, 3, .inl zdepth)), (n_memory, .inl (E.2.1 0, 3072, .inl zmemory)), (n_register, .inl (E.2.1 0, 24, .inl zregister)), (n_mode, .inl (E.2.1 0, 3, .inl zmode)), (n_pc, .inl (E.2.1 0, 3, .inl zpc)), (n_base, .inl (E.2.1 0, 3, .inl zbase)), (n_bound, .inl (E.2.1 0, 3, .inl zbound)), (n_timer, .inl (E.2.1 0, 3, .inl ztimer)), (n_ranOut, .inl (E.2.1 3, 3, .inl zranOut)), (n_halted, .inl (E.2.1 3, 3, .inl zhalted)), (n_steps, .inl (E.2.1 0, 3, .inl zsteps)), (n_outs, .inl (E.2.1 0, 3, .inl zouts)), (n_waits, .inl (E.2.1 0, 3, .inl zwaits)), (n_disk, .inl (E.2.1 0, 384, .inl zdisk)), (n_wants, .inl (E.2.1 0, 25, .inl zwants)), (n_labelFrom, .inl (E.2.1 0, 100, .inl zlabelFrom)), (n_labelSize, .inl (E.2.1 0, 100, .inl zlabelSize)), (n_labelAddress, .inl (E.2.1 0, 100, .inl zlabelAddress)), (n_made, .inl (E.2.1 0, 1024, .inl zmade))]) rfl (by decide) ?_
  clear hP hD hS
  intro H locs hP hD hS
  clear hr
  refine lv_if_eq (tgt := 44) J.1 J.2.1 d_MD_load_6 (by decide) (fun c_10 => ?_) (fun c_10 => ?_)
  · replace h := g_t c_10 h
    refine lv_bipush (v := (-2)) J.1 J.2.1 d_MD_load_44 (by decide) ?_
    have h := Option.some.inj h
    have e_0 := (Prod.mk.inj h).1
    have h := (Prod.mk.inj h).2
    have e_1 := (Prod.mk.inj h).1
    have h := (Prod.mk.inj h).2
    have e_2 := (Prod.mk.inj h).1
    have h := (Prod.mk.inj h).2
    have e_3 := (Prod.mk.inj h).1
    have h := (Prod.mk.inj h).2
    have e_4 := (Prod.mk.inj h).1
    have h := (Prod.mk.inj h).2
    have e_5 := (Prod.mk.inj h).1
    have h := (Prod.mk.inj h).2
    have e_6 := (Prod.mk.inj h).1
    have h := (Prod.mk.inj h).2
    have e_7 := (Prod.mk.inj h).1
    have h := (Prod.mk.inj h).2
    have e_8 := (Prod.mk.inj h).1
    have h := (Prod.mk.inj h).2
    have e_9 := (Prod.mk.inj h).1
    have h := (Prod.mk.inj h).2
    have e_10 := (Prod.mk.inj h).1
    have h := (Prod.mk.inj h).2
    have e_11 := (Prod.mk.inj h).1
    have h := (Prod.mk.inj h).2
    have e_12 := (Prod.mk.inj h).1
    have h := (Prod.mk.inj h).2
    have e_13 := (Prod.mk.inj h).1
    have h := (Prod.mk.inj h).2
    have e_14 := (Prod.mk.inj h).1
    have h := (Prod.mk.inj h).2
    have e_15 := (Prod.mk.inj h).1
    have h := (Prod.mk.inj h).2
    have e_16 := (Prod.mk.inj h).1
    have h := (Prod.mk.inj h).2
    have e_17 := (Prod.mk.inj h).1
    have h := (Prod.mk.inj h).2
    have e_18 := (Prod.mk.inj h).1
    have h := (Prod.mk.inj h).2
    have e_19 := (Prod.mk.inj h).1
    have h := (Prod.mk.inj h).2
    have e_20 := (Prod.mk.inj h).1
    have h := (Prod.mk.inj h).2
    have e_21 := (Prod.mk.inj h).1
    have h := (Prod.mk.inj h).2
    have e_22 := (Prod.mk.inj h).1
    have h := (Prod.mk.inj h).2
    have e_23 := (Prod.mk.inj h).1
    have h := (Prod.mk.inj h).2
    have e_24 := (Prod.mk.inj h).1
    have h := (Prod.mk.inj h).2
    have e_25 := (Prod.mk.inj h).1
    have h := (Prod.mk.inj h).2
    have e_26 := (Prod.mk.inj h).1
    have h := (Prod.mk.inj h).2
    have e_27 := (Prod.mk.inj h).1
    have h := (Prod.mk.inj h).2
    have e_28 := (Prod.mk.inj h).1
    have h := (Prod.mk.inj h).2
    have e_29 := (Prod.mk.inj h).1
    have h := (Prod.mk.inj h).2
    have e_30 := (Prod.mk.inj h).1
    have h := (Prod.mk.inj h).2
    have e_31 := (Prod.mk.inj h).1
    have h := (Prod.mk.inj h).2
    have e_32 := (Prod.mk.inj h).1
    have h := (Prod.mk.inj h).2
    have e_33 := (Prod.mk.inj h).1
    have h := (Prod.mk.inj h).2
    rw [← e_0, ← e_1, ← e_2, ← e_3, ← e_4, ← e_5, ← e_6, ← e_7, ← e_8, ← e_9, ← e_10, ← e_11, ← e_12, ← e_13, ← e_14, ← e_15, ← e_16, ← e_17, ← e_18, ← e_19, ← e_20, ← e_21, ← e_22, ← e_23, ← e_24, ← e_25, ← e_26, ← e_27, ← e_28, ← e_29, ← e_30, ← e_31, ← e_32, ← e_33, ← h]
    exact jr_i J hS hP hD rfl d_MD_load_46
  · replace h := g_f c_10 h
    refine lv_iload_n J.1 J.2.1 d_MD_load_9 rfl (lv_at hl 2 rfl) ?_
    refine lv_bipush (v := 64) J.1 J.2.1 d_MD_load_10 (by decide) ?_
    refine lv_sipush (v := 1024) J.1 J.2.1 d_MD_load_12 (by decide) ?_
    replace h := g_bd h
    obtain ⟨r_11, q_11, h⟩ := h
    have hq := ct_MD_in l E  H.size  p2 64 1024 r_11 q_11
    have hr := jrunS (p := p) (e := e) (below := below) (R := ({ frames := 5, cells := 0, slots := 0, locals := 117 })) (cells := 0) (slots := 0) (As := [.int p2, .int 64, .int 1024]) (rest := []) J hJ hA hZ hP hD hS hq [] rfl (by decide) gl_MD_246 gs_MD_in gini_MD gc_MD_in hd_MD_in ⟨rfl, rfl, Nat.le_of_ble_eq_true rfl, Nat.le_of_ble_eq_true rfl⟩ hl.1 rfl rfl (Nat.le_of_ble_eq_true rfl) d_MD_load_15 ⟨Nat.zero_le _, Nat.zero_le _⟩
    clear hq
    refine jk_i hr hA hP hD hS [] [0, 1, 2, 3, 4, 5, 6, 7, 8, 9, 10, 11, 12, 13, 14, 15, 16, 17, 18, 19, 20, 21, 22] (WR := [(n0, .inr (6, [.ref n_tape, .int ztaped, .ref n_isThere, .ref n_size, .ref n_depth, .ref n_memory, .ref n_register, .ref n_mode, .ref n_pc, .ref n_base, .ref n_bound, .ref n_timer, .ref n_ranOut, .ref n_halted, .ref n_steps, .ref n_outs, .ref n_output, .ref n_waits, .ref n_typed, .ref n_disk, .ref n_wants, .int zat, .int zend, .int zline, .ref n_labelFrom, .ref n_labelSize, .ref n_labelAddress, .int zlabels, .int zfault, .int zfaultLine, .int zisTold, .int zaddress, .ref n_made, .int zmissing, .int zgood, .int zvalue, .int zvalueFrom, .int zvalueSize, .int zme])), (n_tape, .inl (E.2.1 2, 3000, .inl ztape)), (n_isThere, .inl (E.2.1 3, 3, .inl zisThere)), (n_size, .inl (E.2.1 0, 3, .inl zsize)), (n_depth, .inl (E.2.1 0, 3, .inl zdepth)), (n_memory, .inl (E.2.1 0, 3072, .inl zmemory)), (n_register, .inl (E.2.1 0, 24, .inl zregister)), (n_mode, .inl (E.2.1 0, 3, .inl zmode)), (n_pc, .inl (E.2.1 0, 3, .inl zpc)), (n_base, .inl (E.2.1 0, 3, .inl zbase)), (n_bound, .inl (E.2.1 0, 3, .inl zbound)), (n_timer, .inl (E.2.1 0, 3, .inl ztimer)), (n_ranOut, .inl (E.2.1 3, 3, .inl zranOut)), (n_halted, .inl (E.2.1 3, 3, .inl zhalted)), (n_steps, .inl (E.2.1 0, 3, .inl zsteps)), (n_outs, .inl (E.2.1 0, 3, .inl zouts)), (n_waits, .inl (E.2.1 0, 3, .inl zwaits)), (n_disk, .inl (E.2.1 0, 384, .inl zdisk)), (n_wants, .inl (E.2.1 0, 25, .inl zwants)), (n_labelFrom, .inl (E.2.1 0, 100, .inl zlabelFrom)), (n_labelSize, .inl (E.2.1 0, 100, .inl zlabelSize)), (n_labelAddress, .inl (E.2.1 0, 100, .inl zlabelAddress)), (n_made, .inl (E.2.1 0, 1024, .inl zmade))]) rfl rfl (by decide) (by decide) [0, 1, 2, 3, 4, 5, 6, 7, 8, 9, 10, 11, 12, 13, 14, 15, 16, 17, 18, 19, 20, 21, 22] (WF := [(n0, .inr (6, [.ref n_tape, .int ztaped, .ref n_isThere, .ref n_size, .ref n_depth, .ref n_memory, .ref n_register, .ref n_mode, .ref n_pc, .ref n_base, .ref n_bound, .ref n_timer, .ref n_ranOut, .ref n_halted, .ref n_steps, .ref n_outs, .ref n_output, .ref n_waits, .ref n_typed, .ref n_disk, .ref n_wants, .int zat, .int zend, .int zline, .ref n_labelFrom, .ref n_labelSize, .ref n_labelAddress, .int zlabels, .int zfault, .int zfaultLine, .int zisTold, .int zaddress, .ref n_made, .int zmissing, .int zgood, .int zvalue, .int zvalueFrom, .int zvalueSize, .int zme])), (n_tape, .inl (E.2.1 2, 3000, .inl ztape)), (n_isThere, .inl (E.2.1 3, 3, .inl zisThere)), (n_size, .inl (E.2.1 0, 3, .inl zsize)), (n_depth, .inl (E.2.1 0, 3, .inl zdepth)), (n_memory, .inl (E.2.1 0, 3072, .inl zmemory)), (n_register, .inl (E.2.1 0, 24, .inl zregister)), (n_mode, .inl (E.2.1 0, 3, .inl zmode)), (n_pc, .inl (E.2.1 0, 3, .inl zpc)), (n_base, .inl (E.2.1 0, 3, .inl zbase)), (n_bound, .inl (E.2.1 0, 3, .inl zbound)), (n_timer, .inl (E.2.1 0, 3, .inl ztimer)), (n_ranOut, .inl (E.2.1 3, 3, .inl zranOut)), (n_halted, .inl (E.2.1 3, 3, .inl zhalted)), (n_steps, .inl (E.2.1 0, 3, .inl zsteps)), (n_outs, .inl (E.2.1 0, 3, .inl zouts)), (n_waits, .inl (E.2.1 0, 3, .inl zwaits)), (n_disk, .inl (E.2.1 0, 384, .inl zdisk)), (n_wants, .inl (E.2.1 0, 25, .inl zwants)), (n_labelFrom, .inl (E.2.1 0, 100, .inl zlabelFrom)), (n_labelSize, .inl (E.2.1 0, 100, .inl zlabelSize)), (n_labelAddress, .inl (E.2.1 0, 100, .inl zlabelAddress)), (n_made, .inl (E.2.1 0, 1024, .inl zmade))]) rfl (by decide) ?_
    clear hP hD hS
    intro H locs hP hD hS
    clear hr
    refine lv_if_eq (tgt := 44) J.1 J.2.1 d_MD_load_18 (by decide) (fun c_12 => ?_) (fun c_12 => ?_)
    · replace h := g_t c_12 h
      refine lv_bipush (v := (-2)) J.1 J.2.1 d_MD_load_44 (by decide) ?_
      have h := Option.some.inj h
      have e_0 := (Prod.mk.inj h).1
      have h := (Prod.mk.inj h).2
      have e_1 := (Prod.mk.inj h).1
      have h := (Prod.mk.inj h).2
      have e_2 := (Prod.mk.inj h).1
      have h := (Prod.mk.inj h).2
      have e_3 := (Prod.mk.inj h).1
      have h := (Prod.mk.inj h).2
      have e_4 := (Prod.mk.inj h).1
      have h := (Prod.mk.inj h).2
      have e_5 := (Prod.mk.inj h).1
      have h := (Prod.mk.inj h).2
      have e_6 := (Prod.mk.inj h).1
      have h := (Prod.mk.inj h).2
      have e_7 := (Prod.mk.inj h).1
      have h := (Prod.mk.inj h).2
      have e_8 := (Prod.mk.inj h).1
      have h := (Prod.mk.inj h).2
      have e_9 := (Prod.mk.inj h).1
      have h := (Prod.mk.inj h).2
      have e_10 := (Prod.mk.inj h).1
      have h := (Prod.mk.inj h).2
      have e_11 := (Prod.mk.inj h).1
      have h := (Prod.mk.inj h).2
      have e_12 := (Prod.mk.inj h).1
      have h := (Prod.mk.inj h).2
      have e_13 := (Prod.mk.inj h).1
      have h := (Prod.mk.inj h).2
      have e_14 := (Prod.mk.inj h).1
      have h := (Prod.mk.inj h).2
      have e_15 := (Prod.mk.inj h).1
      have h := (Prod.mk.inj h).2
      have e_16 := (Prod.mk.inj h).1
      have h := (Prod.mk.inj h).2
      have e_17 := (Prod.mk.inj h).1
      have h := (Prod.mk.inj h).2
      have e_18 := (Prod.mk.inj h).1
      have h := (Prod.mk.inj h).2
      have e_19 := (Prod.mk.inj h).1
      have h := (Prod.mk.inj h).2
      have e_20 := (Prod.mk.inj h).1
      have h := (Prod.mk.inj h).2
      have e_21 := (Prod.mk.inj h).1
      have h := (Prod.mk.inj h).2
      have e_22 := (Prod.mk.inj h).1
      have h := (Prod.mk.inj h).2
      have e_23 := (Prod.mk.inj h).1
      have h := (Prod.mk.inj h).2
      have e_24 := (Prod.mk.inj h).1
      have h := (Prod.mk.inj h).2
      have e_25 := (Prod.mk.inj h).1
      have h := (Prod.mk.inj h).2
      have e_26 := (Prod.mk.inj h).1
      have h := (Prod.mk.inj h).2
      have e_27 := (Prod.mk.inj h).1
      have h := (Prod.mk.inj h).2
      have e_28 := (Prod.mk.inj h).1
      have h := (Prod.mk.inj h).2
      have e_29 := (Prod.mk.inj h).1
      have h := (Prod.mk.inj h).2
      have e_30 := (Prod.mk.inj h).1
      have h := (Prod.mk.inj h).2
      have e_31 := (Prod.mk.inj h).1
      have h := (Prod.mk.inj h).2
      have e_32 := (Prod.mk.inj h).1
      have h := (Prod.mk.inj h).2
      have e_33 := (Prod.mk.inj h).1
      have h := (Prod.mk.inj h).2
      rw [← e_0, ← e_1, ← e_2, ← e_3, ← e_4, ← e_5, ← e_6, ← e_7, ← e_8, ← e_9, ← e_10, ← e_11, ← e_12, ← e_13, ← e_14, ← e_15, ← e_16, ← e_17, ← e_18, ← e_19, ← e_20, ← e_21, ← e_22, ← e_23, ← e_24, ← e_25, ← e_26, ← e_27, ← e_28, ← e_29, ← e_30, ← e_31, ← e_32, ← e_33, ← h]
      exact jr_i J hS hP hD rfl d_MD_load_46
    · replace h := g_f c_12 h
      refine lv_iload_n J.1 J.2.1 d_MD_load_21 rfl (lv_at hl 3 rfl) ?_
      refine lv_iconst (v := 0) J.1 J.2.1 d_MD_load_22 (by decide) ?_
      refine lv_iconst (v := 2) J.1 J.2.1 d_MD_load_23 (by decide) ?_
      replace h := g_bd h
      obtain ⟨r_13, q_13, h⟩ := h
      have hq := ct_MD_in l E  H.size  p3 0 2 r_13 q_13
      have hr := jrunS (p := p) (e := e) (below := below) (R := ({ frames := 5, cells := 0, slots := 0, locals := 117 })) (cells := 0) (slots := 0) (As := [.int p3, .int 0, .int 2]) (rest := []) J hJ hA hZ hP hD hS hq [] rfl (by decide) gl_MD_246 gs_MD_in gini_MD gc_MD_in hd_MD_in ⟨rfl, rfl, Nat.le_of_ble_eq_true rfl, Nat.le_of_ble_eq_true rfl⟩ hl.1 rfl rfl (Nat.le_of_ble_eq_true rfl) d_MD_load_24 ⟨Nat.zero_le _, Nat.zero_le _⟩
      clear hq
      refine jk_i hr hA hP hD hS [] [0, 1, 2, 3, 4, 5, 6, 7, 8, 9, 10, 11, 12, 13, 14, 15, 16, 17, 18, 19, 20, 21, 22] (WR := [(n0, .inr (6, [.ref n_tape, .int ztaped, .ref n_isThere, .ref n_size, .ref n_depth, .ref n_memory, .ref n_register, .ref n_mode, .ref n_pc, .ref n_base, .ref n_bound, .ref n_timer, .ref n_ranOut, .ref n_halted, .ref n_steps, .ref n_outs, .ref n_output, .ref n_waits, .ref n_typed, .ref n_disk, .ref n_wants, .int zat, .int zend, .int zline, .ref n_labelFrom, .ref n_labelSize, .ref n_labelAddress, .int zlabels, .int zfault, .int zfaultLine, .int zisTold, .int zaddress, .ref n_made, .int zmissing, .int zgood, .int zvalue, .int zvalueFrom, .int zvalueSize, .int zme])), (n_tape, .inl (E.2.1 2, 3000, .inl ztape)), (n_isThere, .inl (E.2.1 3, 3, .inl zisThere)), (n_size, .inl (E.2.1 0, 3, .inl zsize)), (n_depth, .inl (E.2.1 0, 3, .inl zdepth)), (n_memory, .inl (E.2.1 0, 3072, .inl zmemory)), (n_register, .inl (E.2.1 0, 24, .inl zregister)), (n_mode, .inl (E.2.1 0, 3, .inl zmode)), (n_pc, .inl (E.2.1 0, 3, .inl zpc)), (n_base, .inl (E.2.1 0, 3, .inl zbase)), (n_bound, .inl (E.2.1 0, 3, .inl zbound)), (n_timer, .inl (E.2.1 0, 3, .inl ztimer)), (n_ranOut, .inl (E.2.1 3, 3, .inl zranOut)), (n_halted, .inl (E.2.1 3, 3, .inl zhalted)), (n_steps, .inl (E.2.1 0, 3, .inl zsteps)), (n_outs, .inl (E.2.1 0, 3, .inl zouts)), (n_waits, .inl (E.2.1 0, 3, .inl zwaits)), (n_disk, .inl (E.2.1 0, 384, .inl zdisk)), (n_wants, .inl (E.2.1 0, 25, .inl zwants)), (n_labelFrom, .inl (E.2.1 0, 100, .inl zlabelFrom)), (n_labelSize, .inl (E.2.1 0, 100, .inl zlabelSize)), (n_labelAddress, .inl (E.2.1 0, 100, .inl zlabelAddress)), (n_made, .inl (E.2.1 0, 1024, .inl zmade))]) rfl rfl (by decide) (by decide) [0, 1, 2, 3, 4, 5, 6, 7, 8, 9, 10, 11, 12, 13, 14, 15, 16, 17, 18, 19, 20, 21, 22] (WF := [(n0, .inr (6, [.ref n_tape, .int ztaped, .ref n_isThere, .ref n_size, .ref n_depth, .ref n_memory, .ref n_register, .ref n_mode, .ref n_pc, .ref n_base, .ref n_bound, .ref n_timer, .ref n_ranOut, .ref n_halted, .ref n_steps, .ref n_outs, .ref n_output, .ref n_waits, .ref n_typed, .ref n_disk, .ref n_wants, .int zat, .int zend, .int zline, .ref n_labelFrom, .ref n_labelSize, .ref n_labelAddress, .int zlabels, .int zfault, .int zfaultLine, .int zisTold, .int zaddress, .ref n_made, .int zmissing, .int zgood, .int zvalue, .int zvalueFrom, .int zvalueSize, .int zme])), (n_tape, .inl (E.2.1 2, 3000, .inl ztape)), (n_isThere, .inl (E.2.1 3, 3, .inl zisThere)), (n_size, .inl (E.2.1 0, 3, .inl zsize)), (n_depth, .inl (E.2.1 0, 3, .inl zdepth)), (n_memory, .inl (E.2.1 0, 3072, .inl zmemory)), (n_register, .inl (E.2.1 0, 24, .inl zregister)), (n_mode, .inl (E.2.1 0, 3, .inl zmode)), (n_pc, .inl (E.2.1 0, 3, .inl zpc)), (n_base, .inl (E.2.1 0, 3, .inl zbase)), (n_bound, .inl (E.2.1 0, 3, .inl zbound)), (n_timer, .inl (E.2.1 0, 3, .inl ztimer)), (n_ranOut, .inl (E.2.1 3, 3, .inl zranOut)), (n_halted, .inl (E.2.1 3, 3, .inl zhalted)), (n_steps, .inl (E.2.1 0, 3, .inl zsteps)), (n_outs, .inl (E.2.1 0, 3, .inl zouts)), (n_waits, .inl (E.2.1 0, 3, .inl zwaits)), (n_disk, .inl (E.2.1 0, 384, .inl zdisk)), (n_wants, .inl (E.2.1 0, 25, .inl zwants)), (n_labelFrom, .inl (E.2.1 0, 100, .inl zlabelFrom)), (n_labelSize, .inl (E.2.1 0, 100, .inl zlabelSize)), (n_labelAddress, .inl (E.2.1 0, 100, .inl zlabelAddress)), (n_made, .inl (E.2.1 0, 1024, .inl zmade))]) rfl (by decide) ?_
      clear hP hD hS
      intro H locs hP hD hS
      clear hr
      refine lv_if_eq (tgt := 44) J.1 J.2.1 d_MD_load_27 (by decide) (fun c_14 => ?_) (fun c_14 => ?_)
      · replace h := g_t c_14 h
        refine lv_bipush (v := (-2)) J.1 J.2.1 d_MD_load_44 (by decide) ?_
        have h := Option.some.inj h
        have e_0 := (Prod.mk.inj h).1
        have h := (Prod.mk.inj h).2
        have e_1 := (Prod.mk.inj h).1
        have h := (Prod.mk.inj h).2
        have e_2 := (Prod.mk.inj h).1
        have h := (Prod.mk.inj h).2
        have e_3 := (Prod.mk.inj h).1
        have h := (Prod.mk.inj h).2
        have e_4 := (Prod.mk.inj h).1
        have h := (Prod.mk.inj h).2
        have e_5 := (Prod.mk.inj h).1
        have h := (Prod.mk.inj h).2
        have e_6 := (Prod.mk.inj h).1
        have h := (Prod.mk.inj h).2
        have e_7 := (Prod.mk.inj h).1
        have h := (Prod.mk.inj h).2
        have e_8 := (Prod.mk.inj h).1
        have h := (Prod.mk.inj h).2
        have e_9 := (Prod.mk.inj h).1
        have h := (Prod.mk.inj h).2
        have e_10 := (Prod.mk.inj h).1
        have h := (Prod.mk.inj h).2
        have e_11 := (Prod.mk.inj h).1
        have h := (Prod.mk.inj h).2
        have e_12 := (Prod.mk.inj h).1
        have h := (Prod.mk.inj h).2
        have e_13 := (Prod.mk.inj h).1
        have h := (Prod.mk.inj h).2
        have e_14 := (Prod.mk.inj h).1
        have h := (Prod.mk.inj h).2
        have e_15 := (Prod.mk.inj h).1
        have h := (Prod.mk.inj h).2
        have e_16 := (Prod.mk.inj h).1
        have h := (Prod.mk.inj h).2
        have e_17 := (Prod.mk.inj h).1
        have h := (Prod.mk.inj h).2
        have e_18 := (Prod.mk.inj h).1
        have h := (Prod.mk.inj h).2
        have e_19 := (Prod.mk.inj h).1
        have h := (Prod.mk.inj h).2
        have e_20 := (Prod.mk.inj h).1
        have h := (Prod.mk.inj h).2
        have e_21 := (Prod.mk.inj h).1
        have h := (Prod.mk.inj h).2
        have e_22 := (Prod.mk.inj h).1
        have h := (Prod.mk.inj h).2
        have e_23 := (Prod.mk.inj h).1
        have h := (Prod.mk.inj h).2
        have e_24 := (Prod.mk.inj h).1
        have h := (Prod.mk.inj h).2
        have e_25 := (Prod.mk.inj h).1
        have h := (Prod.mk.inj h).2
        have e_26 := (Prod.mk.inj h).1
        have h := (Prod.mk.inj h).2
        have e_27 := (Prod.mk.inj h).1
        have h := (Prod.mk.inj h).2
        have e_28 := (Prod.mk.inj h).1
        have h := (Prod.mk.inj h).2
        have e_29 := (Prod.mk.inj h).1
        have h := (Prod.mk.inj h).2
        have e_30 := (Prod.mk.inj h).1
        have h := (Prod.mk.inj h).2
        have e_31 := (Prod.mk.inj h).1
        have h := (Prod.mk.inj h).2
        have e_32 := (Prod.mk.inj h).1
        have h := (Prod.mk.inj h).2
        have e_33 := (Prod.mk.inj h).1
        have h := (Prod.mk.inj h).2
        rw [← e_0, ← e_1, ← e_2, ← e_3, ← e_4, ← e_5, ← e_6, ← e_7, ← e_8, ← e_9, ← e_10, ← e_11, ← e_12, ← e_13, ← e_14, ← e_15, ← e_16, ← e_17, ← e_18, ← e_19, ← e_20, ← e_21, ← e_22, ← e_23, ← e_24, ← e_25, ← e_26, ← e_27, ← e_28, ← e_29, ← e_30, ← e_31, ← e_32, ← e_33, ← h]
        exact jr_i J hS hP hD rfl d_MD_load_46
      · replace h := g_f c_14 h
        refine lv_iload J.1 J.2.1 d_MD_load_30 (lv_at hl 4 rfl) ?_
        refine lv_if_lt (tgt := 44) J.1 J.2.1 d_MD_load_32 (by decide) (fun c_15 => ?_) (fun c_15 => ?_)
        · replace h := g_t c_15 h
          refine lv_bipush (v := (-2)) J.1 J.2.1 d_MD_load_44 (by decide) ?_
          have h := Option.some.inj h
          have e_0 := (Prod.mk.inj h).1
          have h := (Prod.mk.inj h).2
          have e_1 := (Prod.mk.inj h).1
          have h := (Prod.mk.inj h).2
          have e_2 := (Prod.mk.inj h).1
          have h := (Prod.mk.inj h).2
          have e_3 := (Prod.mk.inj h).1
          have h := (Prod.mk.inj h).2
          have e_4 := (Prod.mk.inj h).1
          have h := (Prod.mk.inj h).2
          have e_5 := (Prod.mk.inj h).1
          have h := (Prod.mk.inj h).2
          have e_6 := (Prod.mk.inj h).1
          have h := (Prod.mk.inj h).2
          have e_7 := (Prod.mk.inj h).1
          have h := (Prod.mk.inj h).2
          have e_8 := (Prod.mk.inj h).1
          have h := (Prod.mk.inj h).2
          have e_9 := (Prod.mk.inj h).1
          have h := (Prod.mk.inj h).2
          have e_10 := (Prod.mk.inj h).1
          have h := (Prod.mk.inj h).2
          have e_11 := (Prod.mk.inj h).1
          have h := (Prod.mk.inj h).2
          have e_12 := (Prod.mk.inj h).1
          have h := (Prod.mk.inj h).2
          have e_13 := (Prod.mk.inj h).1
          have h := (Prod.mk.inj h).2
          have e_14 := (Prod.mk.inj h).1
          have h := (Prod.mk.inj h).2
          have e_15 := (Prod.mk.inj h).1
          have h := (Prod.mk.inj h).2
          have e_16 := (Prod.mk.inj h).1
          have h := (Prod.mk.inj h).2
          have e_17 := (Prod.mk.inj h).1
          have h := (Prod.mk.inj h).2
          have e_18 := (Prod.mk.inj h).1
          have h := (Prod.mk.inj h).2
          have e_19 := (Prod.mk.inj h).1
          have h := (Prod.mk.inj h).2
          have e_20 := (Prod.mk.inj h).1
          have h := (Prod.mk.inj h).2
          have e_21 := (Prod.mk.inj h).1
          have h := (Prod.mk.inj h).2
          have e_22 := (Prod.mk.inj h).1
          have h := (Prod.mk.inj h).2
          have e_23 := (Prod.mk.inj h).1
          have h := (Prod.mk.inj h).2
          have e_24 := (Prod.mk.inj h).1
          have h := (Prod.mk.inj h).2
          have e_25 := (Prod.mk.inj h).1
          have h := (Prod.mk.inj h).2
          have e_26 := (Prod.mk.inj h).1
          have h := (Prod.mk.inj h).2
          have e_27 := (Prod.mk.inj h).1
          have h := (Prod.mk.inj h).2
          have e_28 := (Prod.mk.inj h).1
          have h := (Prod.mk.inj h).2
          have e_29 := (Prod.mk.inj h).1
          have h := (Prod.mk.inj h).2
          have e_30 := (Prod.mk.inj h).1
          have h := (Prod.mk.inj h).2
          have e_31 := (Prod.mk.inj h).1
          have h := (Prod.mk.inj h).2
          have e_32 := (Prod.mk.inj h).1
          have h := (Prod.mk.inj h).2
          have e_33 := (Prod.mk.inj h).1
          have h := (Prod.mk.inj h).2
          rw [← e_0, ← e_1, ← e_2, ← e_3, ← e_4, ← e_5, ← e_6, ← e_7, ← e_8, ← e_9, ← e_10, ← e_11, ← e_12, ← e_13, ← e_14, ← e_15, ← e_16, ← e_17, ← e_18, ← e_19, ← e_20, ← e_21, ← e_22, ← e_23, ← e_24, ← e_25, ← e_26, ← e_27, ← e_28, ← e_29, ← e_30, ← e_31, ← e_32, ← e_33, ← h]
          exact jr_i J hS hP hD rfl d_MD_load_46
        · replace h := g_f c_15 h
          refine lv_iload J.1 J.2.1 d_MD_load_35 (lv_at hl 4 rfl) ?_
          refine lv_aload_n J.1 J.2.1 d_MD_load_37 rfl (lv_at hl 0 rfl) ?_
          refine jg J hJ hP 0 rfl rfl i_MD 1 (by decide) gf_MD_1 rfl d_MD_load_38 ?_
          refine lv_icmp_le (tgt := 47) J.1 J.2.1 d_MD_load_41 (by decide) (fun c_16 => ?_) (fun c_16 => ?_)
          · replace h := g_t c_16 h
            refine lv_aload_n J.1 J.2.1 d_MD_load_47 rfl (lv_at hl 0 rfl) ?_
            refine lv_iconst (v := 0) J.1 J.2.1 d_MD_load_48 (by decide) ?_
            refine jp J hJ hP hD hS 0 rfl rfl i_MD t_MD t_MD_ok n_MD 1 (by decide) gf_MD_1 rfl rfl rfl (Nat.le_of_ble_eq_true rfl) d_MD_load_49 (WS' := [(n0, .inr (6, [.ref n_tape, .int 0, .ref n_isThere, .ref n_size, .ref n_depth, .ref n_memory, .ref n_register, .ref n_mode, .ref n_pc, .ref n_base, .ref n_bound, .ref n_timer, .ref n_ranOut, .ref n_halted, .ref n_steps, .ref n_outs, .ref n_output, .ref n_waits, .ref n_typed, .ref n_disk, .ref n_wants, .int zat, .int zend, .int zline, .ref n_labelFrom, .ref n_labelSize, .ref n_labelAddress, .int zlabels, .int zfault, .int zfaultLine, .int zisTold, .int zaddress, .ref n_made, .int zmissing, .int zgood, .int zvalue, .int zvalueFrom, .int zvalueSize, .int zme])), (n_tape, .inl (E.2.1 2, 3000, .inl ztape)), (n_isThere, .inl (E.2.1 3, 3, .inl zisThere)), (n_size, .inl (E.2.1 0, 3, .inl zsize)), (n_depth, .inl (E.2.1 0, 3, .inl zdepth)), (n_memory, .inl (E.2.1 0, 3072, .inl zmemory)), (n_register, .inl (E.2.1 0, 24, .inl zregister)), (n_mode, .inl (E.2.1 0, 3, .inl zmode)), (n_pc, .inl (E.2.1 0, 3, .inl zpc)), (n_base, .inl (E.2.1 0, 3, .inl zbase)), (n_bound, .inl (E.2.1 0, 3, .inl zbound)), (n_timer, .inl (E.2.1 0, 3, .inl ztimer)), (n_ranOut, .inl (E.2.1 3, 3, .inl zranOut)), (n_halted, .inl (E.2.1 3, 3, .inl zhalted)), (n_steps, .inl (E.2.1 0, 3, .inl zsteps)), (n_outs, .inl (E.2.1 0, 3, .inl zouts)), (n_waits, .inl (E.2.1 0, 3, .inl zwaits)), (n_disk, .inl (E.2.1 0, 384, .inl zdisk)), (n_wants, .inl (E.2.1 0, 25, .inl zwants)), (n_labelFrom, .inl (E.2.1 0, 100, .inl zlabelFrom)), (n_labelSize, .inl (E.2.1 0, 100, .inl zlabelSize)), (n_labelAddress, .inl (E.2.1 0, 100, .inl zlabelAddress)), (n_made, .inl (E.2.1 0, 1024, .inl zmade))]) rfl ?_
            clear hP hD hS
            intro H locs hP hD hS
            refine lv_aload_n J.1 J.2.1 d_MD_load_52 rfl (lv_at hl 0 rfl) ?_
            refine lv_iload J.1 J.2.1 d_MD_load_53 (lv_at hl 4 rfl) ?_
            refine jp J hJ hP hD hS 0 rfl rfl i_MD t_MD t_MD_ok n_MD 22 (by decide) gf_MD_92 rfl rfl rfl (Nat.le_of_ble_eq_true rfl) d_MD_load_55 (WS' := [(n0, .inr (6, [.ref n_tape, .int 0, .ref n_isThere, .ref n_size, .ref n_depth, .ref n_memory, .ref n_register, .ref n_mode, .ref n_pc, .ref n_base, .ref n_bound, .ref n_timer, .ref n_ranOut, .ref n_halted, .ref n_steps, .ref n_outs, .ref n_output, .ref n_waits, .ref n_typed, .ref n_disk, .ref n_wants, .int zat, .int p4, .int zline, .ref n_labelFrom, .ref n_labelSize, .ref n_labelAddress, .int zlabels, .int zfault, .int zfaultLine, .int zisTold, .int zaddress, .ref n_made, .int zmissing, .int zgood, .int zvalue, .int zvalueFrom, .int zvalueSize, .int zme])), (n_tape, .inl (E.2.1 2, 3000, .inl ztape)), (n_isThere, .inl (E.2.1 3, 3, .inl zisThere)), (n_size, .inl (E.2.1 0, 3, .inl zsize)), (n_depth, .inl (E.2.1 0, 3, .inl zdepth)), (n_memory, .inl (E.2.1 0, 3072, .inl zmemory)), (n_register, .inl (E.2.1 0, 24, .inl zregister)), (n_mode, .inl (E.2.1 0, 3, .inl zmode)), (n_pc, .inl (E.2.1 0, 3, .inl zpc)), (n_base, .inl (E.2.1 0, 3, .inl zbase)), (n_bound, .inl (E.2.1 0, 3, .inl zbound)), (n_timer, .inl (E.2.1 0, 3, .inl ztimer)), (n_ranOut, .inl (E.2.1 3, 3, .inl zranOut)), (n_halted, .inl (E.2.1 3, 3, .inl zhalted)), (n_steps, .inl (E.2.1 0, 3, .inl zsteps)), (n_outs, .inl (E.2.1 0, 3, .inl zouts)), (n_waits, .inl (E.2.1 0, 3, .inl zwaits)), (n_disk, .inl (E.2.1 0, 384, .inl zdisk)), (n_wants, .inl (E.2.1 0, 25, .inl zwants)), (n_labelFrom, .inl (E.2.1 0, 100, .inl zlabelFrom)), (n_labelSize, .inl (E.2.1 0, 100, .inl zlabelSize)), (n_labelAddress, .inl (E.2.1 0, 100, .inl zlabelAddress)), (n_made, .inl (E.2.1 0, 1024, .inl zmade))]) rfl ?_
            clear hP hD hS
            intro H locs hP hD hS
            refine lv_aload_n J.1 J.2.1 d_MD_load_58 rfl (lv_at hl 0 rfl) ?_
            refine lv_iconst (v := 1) J.1 J.2.1 d_MD_load_59 (by decide) ?_
            refine jp J hJ hP hD hS 0 rfl rfl i_MD t_MD t_MD_ok n_MD 30 (by decide) gf_MD_250 rfl rfl rfl (Nat.le_of_ble_eq_true rfl) d_MD_load_60 (WS' := [(n0, .inr (6, [.ref n_tape, .int 0, .ref n_isThere, .ref n_size, .ref n_depth, .ref n_memory, .ref n_register, .ref n_mode, .ref n_pc, .ref n_base, .ref n_bound, .ref n_timer, .ref n_ranOut, .ref n_halted, .ref n_steps, .ref n_outs, .ref n_output, .ref n_waits, .ref n_typed, .ref n_disk, .ref n_wants, .int zat, .int p4, .int zline, .ref n_labelFrom, .ref n_labelSize, .ref n_labelAddress, .int zlabels, .int zfault, .int zfaultLine, .int 1, .int zaddress, .ref n_made, .int zmissing, .int zgood, .int zvalue, .int zvalueFrom, .int zvalueSize, .int zme])), (n_tape, .inl (E.2.1 2, 3000, .inl ztape)), (n_isThere, .inl (E.2.1 3, 3, .inl zisThere)), (n_size, .inl (E.2.1 0, 3, .inl zsize)), (n_depth, .inl (E.2.1 0, 3, .inl zdepth)), (n_memory, .inl (E.2.1 0, 3072, .inl zmemory)), (n_register, .inl (E.2.1 0, 24, .inl zregister)), (n_mode, .inl (E.2.1 0, 3, .inl zmode)), (n_pc, .inl (E.2.1 0, 3, .inl zpc)), (n_base, .inl (E.2.1 0, 3, .inl zbase)), (n_bound, .inl (E.2.1 0, 3, .inl zbound)), (n_timer, .inl (E.2.1 0, 3, .inl ztimer)), (n_ranOut, .inl (E.2.1 3, 3, .inl zranOut)), (n_halted, .inl (E.2.1 3, 3, .inl zhalted)), (n_steps, .inl (E.2.1 0, 3, .inl zsteps)), (n_outs, .inl (E.2.1 0, 3, .inl zouts)), (n_waits, .inl (E.2.1 0, 3, .inl zwaits)), (n_disk, .inl (E.2.1 0, 384, .inl zdisk)), (n_wants, .inl (E.2.1 0, 25, .inl zwants)), (n_labelFrom, .inl (E.2.1 0, 100, .inl zlabelFrom)), (n_labelSize, .inl (E.2.1 0, 100, .inl zlabelSize)), (n_labelAddress, .inl (E.2.1 0, 100, .inl zlabelAddress)), (n_made, .inl (E.2.1 0, 1024, .inl zmade))]) rfl ?_
            clear hP hD hS
            intro H locs hP hD hS
            refine lv_aload_n J.1 J.2.1 d_MD_load_63 rfl (lv_at hl 0 rfl) ?_
            refine lv_iconst (v := 0) J.1 J.2.1 d_MD_load_64 (by decide) ?_
            refine jp J hJ hP hD hS 0 rfl rfl i_MD t_MD t_MD_ok n_MD 28 (by decide) gf_MD_240 rfl rfl rfl (Nat.le_of_ble_eq_true rfl) d_MD_load_65 (WS' := [(n0, .inr (6, [.ref n_tape, .int 0, .ref n_isThere, .ref n_size, .ref n_depth, .ref n_memory, .ref n_register, .ref n_mode, .ref n_pc, .ref n_base, .ref n_bound, .ref n_timer, .ref n_ranOut, .ref n_halted, .ref n_steps, .ref n_outs, .ref n_output, .ref n_waits, .ref n_typed, .ref n_disk, .ref n_wants, .int zat, .int p4, .int zline, .ref n_labelFrom, .ref n_labelSize, .ref n_labelAddress, .int zlabels, .int 0, .int zfaultLine, .int 1, .int zaddress, .ref n_made, .int zmissing, .int zgood, .int zvalue, .int zvalueFrom, .int zvalueSize, .int zme])), (n_tape, .inl (E.2.1 2, 3000, .inl ztape)), (n_isThere, .inl (E.2.1 3, 3, .inl zisThere)), (n_size, .inl (E.2.1 0, 3, .inl zsize)), (n_depth, .inl (E.2.1 0, 3, .inl zdepth)), (n_memory, .inl (E.2.1 0, 3072, .inl zmemory)), (n_register, .inl (E.2.1 0, 24, .inl zregister)), (n_mode, .inl (E.2.1 0, 3, .inl zmode)), (n_pc, .inl (E.2.1 0, 3, .inl zpc)), (n_base, .inl (E.2.1 0, 3, .inl zbase)), (n_bound, .inl (E.2.1 0, 3, .inl zbound)), (n_timer, .inl (E.2.1 0, 3, .inl ztimer)), (n_ranOut, .inl (E.2.1 3, 3, .inl zranOut)), (n_halted, .inl (E.2.1 3, 3, .inl zhalted)), (n_steps, .inl (E.2.1 0, 3, .inl zsteps)), (n_outs, .inl (E.2.1 0, 3, .inl zouts)), (n_waits, .inl (E.2.1 0, 3, .inl zwaits)), (n_disk, .inl (E.2.1 0, 384, .inl zdisk)), (n_wants, .inl (E.2.1 0, 25, .inl zwants)), (n_labelFrom, .inl (E.2.1 0, 100, .inl zlabelFrom)), (n_labelSize, .inl (E.2.1 0, 100, .inl zlabelSize)), (n_labelAddress, .inl (E.2.1 0, 100, .inl zlabelAddress)), (n_made, .inl (E.2.1 0, 1024, .inl zmade))]) rfl ?_
            clear hP hD hS
            intro H locs hP hD hS
            refine lv_aload_n J.1 J.2.1 d_MD_load_68 rfl (lv_at hl 0 rfl) ?_
            refine lv_iconst (v := 0) J.1 J.2.1 d_MD_load_69 (by decide) ?_
            refine jp J hJ hP hD hS 0 rfl rfl i_MD t_MD t_MD_ok n_MD 29 (by decide) gf_MD_243 rfl rfl rfl (Nat.le_of_ble_eq_true rfl) d_MD_load_70 (WS' := [(n0, .inr (6, [.ref n_tape, .int 0, .ref n_isThere, .ref n_size, .ref n_depth, .ref n_memory, .ref n_register, .ref n_mode, .ref n_pc, .ref n_base, .ref n_bound, .ref n_timer, .ref n_ranOut, .ref n_halted, .ref n_steps, .ref n_outs, .ref n_output, .ref n_waits, .ref n_typed, .ref n_disk, .ref n_wants, .int zat, .int p4, .int zline, .ref n_labelFrom, .ref n_labelSize, .ref n_labelAddress, .int zlabels, .int 0, .int 0, .int 1, .int zaddress, .ref n_made, .int zmissing, .int zgood, .int zvalue, .int zvalueFrom, .int zvalueSize, .int zme])), (n_tape, .inl (E.2.1 2, 3000, .inl ztape)), (n_isThere, .inl (E.2.1 3, 3, .inl zisThere)), (n_size, .inl (E.2.1 0, 3, .inl zsize)), (n_depth, .inl (E.2.1 0, 3, .inl zdepth)), (n_memory, .inl (E.2.1 0, 3072, .inl zmemory)), (n_register, .inl (E.2.1 0, 24, .inl zregister)), (n_mode, .inl (E.2.1 0, 3, .inl zmode)), (n_pc, .inl (E.2.1 0, 3, .inl zpc)), (n_base, .inl (E.2.1 0, 3, .inl zbase)), (n_bound, .inl (E.2.1 0, 3, .inl zbound)), (n_timer, .inl (E.2.1 0, 3, .inl ztimer)), (n_ranOut, .inl (E.2.1 3, 3, .inl zranOut)), (n_halted, .inl (E.2.1 3, 3, .inl zhalted)), (n_steps, .inl (E.2.1 0, 3, .inl zsteps)), (n_outs, .inl (E.2.1 0, 3, .inl zouts)), (n_waits, .inl (E.2.1 0, 3, .inl zwaits)), (n_disk, .inl (E.2.1 0, 384, .inl zdisk)), (n_wants, .inl (E.2.1 0, 25, .inl zwants)), (n_labelFrom, .inl (E.2.1 0, 100, .inl zlabelFrom)), (n_labelSize, .inl (E.2.1 0, 100, .inl zlabelSize)), (n_labelAddress, .inl (E.2.1 0, 100, .inl zlabelAddress)), (n_made, .inl (E.2.1 0, 1024, .inl zmade))]) rfl ?_
            clear hP hD hS
            intro H locs hP hD hS
            refine lv_aload_n J.1 J.2.1 d_MD_load_73 rfl (lv_at hl 0 rfl) ?_
            refine lv_iconst (v := 0) J.1 J.2.1 d_MD_load_74 (by decide) ?_
            refine jp J hJ hP hD hS 0 rfl rfl i_MD t_MD t_MD_ok n_MD 27 (by decide) gf_MD_109 rfl rfl rfl (Nat.le_of_ble_eq_true rfl) d_MD_load_75 (WS' := [(n0, .inr (6, [.ref n_tape, .int 0, .ref n_isThere, .ref n_size, .ref n_depth, .ref n_memory, .ref n_register, .ref n_mode, .ref n_pc, .ref n_base, .ref n_bound, .ref n_timer, .ref n_ranOut, .ref n_halted, .ref n_steps, .ref n_outs, .ref n_output, .ref n_waits, .ref n_typed, .ref n_disk, .ref n_wants, .int zat, .int p4, .int zline, .ref n_labelFrom, .ref n_labelSize, .ref n_labelAddress, .int 0, .int 0, .int 0, .int 1, .int zaddress, .ref n_made, .int zmissing, .int zgood, .int zvalue, .int zvalueFrom, .int zvalueSize, .int zme])), (n_tape, .inl (E.2.1 2, 3000, .inl ztape)), (n_isThere, .inl (E.2.1 3, 3, .inl zisThere)), (n_size, .inl (E.2.1 0, 3, .inl zsize)), (n_depth, .inl (E.2.1 0, 3, .inl zdepth)), (n_memory, .inl (E.2.1 0, 3072, .inl zmemory)), (n_register, .inl (E.2.1 0, 24, .inl zregister)), (n_mode, .inl (E.2.1 0, 3, .inl zmode)), (n_pc, .inl (E.2.1 0, 3, .inl zpc)), (n_base, .inl (E.2.1 0, 3, .inl zbase)), (n_bound, .inl (E.2.1 0, 3, .inl zbound)), (n_timer, .inl (E.2.1 0, 3, .inl ztimer)), (n_ranOut, .inl (E.2.1 3, 3, .inl zranOut)), (n_halted, .inl (E.2.1 3, 3, .inl zhalted)), (n_steps, .inl (E.2.1 0, 3, .inl zsteps)), (n_outs, .inl (E.2.1 0, 3, .inl zouts)), (n_waits, .inl (E.2.1 0, 3, .inl zwaits)), (n_disk, .inl (E.2.1 0, 384, .inl zdisk)), (n_wants, .inl (E.2.1 0, 25, .inl zwants)), (n_labelFrom, .inl (E.2.1 0, 100, .inl zlabelFrom)), (n_labelSize, .inl (E.2.1 0, 100, .inl zlabelSize)), (n_labelAddress, .inl (E.2.1 0, 100, .inl zlabelAddress)), (n_made, .inl (E.2.1 0, 1024, .inl zmade))]) rfl ?_
            clear hP hD hS
            intro H locs hP hD hS
            refine lv_aload_n J.1 J.2.1 d_MD_load_78 rfl (lv_at hl 0 rfl) ?_
            refine lv_iconst (v := 0) J.1 J.2.1 d_MD_load_79 (by decide) ?_
            refine jp J hJ hP hD hS 0 rfl rfl i_MD t_MD t_MD_ok n_MD 33 (by decide) gf_MD_208 rfl rfl rfl (Nat.le_of_ble_eq_true rfl) d_MD_load_80 (WS' := [(n0, .inr (6, [.ref n_tape, .int 0, .ref n_isThere, .ref n_size, .ref n_depth, .ref n_memory, .ref n_register, .ref n_mode, .ref n_pc, .ref n_base, .ref n_bound, .ref n_timer, .ref n_ranOut, .ref n_halted, .ref n_steps, .ref n_outs, .ref n_output, .ref n_waits, .ref n_typed, .ref n_disk, .ref n_wants, .int zat, .int p4, .int zline, .ref n_labelFrom, .ref n_labelSize, .ref n_labelAddress, .int 0, .int 0, .int 0, .int 1, .int zaddress, .ref n_made, .int 0, .int zgood, .int zvalue, .int zvalueFrom, .int zvalueSize, .int zme])), (n_tape, .inl (E.2.1 2, 3000, .inl ztape)), (n_isThere, .inl (E.2.1 3, 3, .inl zisThere)), (n_size, .inl (E.2.1 0, 3, .inl zsize)), (n_depth, .inl (E.2.1 0, 3, .inl zdepth)), (n_memory, .inl (E.2.1 0, 3072, .inl zmemory)), (n_register, .inl (E.2.1 0, 24, .inl zregister)), (n_mode, .inl (E.2.1 0, 3, .inl zmode)), (n_pc, .inl (E.2.1 0, 3, .inl zpc)), (n_base, .inl (E.2.1 0, 3, .inl zbase)), (n_bound, .inl (E.2.1 0, 3, .inl zbound)), (n_timer, .inl (E.2.1 0, 3, .inl ztimer)), (n_ranOut, .inl (E.2.1 3, 3, .inl zranOut)), (n_halted, .inl (E.2.1 3, 3, .inl zhalted)), (n_steps, .inl (E.2.1 0, 3, .inl zsteps)), (n_outs, .inl (E.2.1 0, 3, .inl zouts)), (n_waits, .inl (E.2.1 0, 3, .inl zwaits)), (n_disk, .inl (E.2.1 0, 384, .inl zdisk)), (n_wants, .inl (E.2.1 0, 25, .inl zwants)), (n_labelFrom, .inl (E.2.1 0, 100, .inl zlabelFrom)), (n_labelSize, .inl (E.2.1 0, 100, .inl zlabelSize)), (n_labelAddress, .inl (E.2.1 0, 100, .inl zlabelAddress)), (n_made, .inl (E.2.1 0, 1024, .inl zmade))]) rfl ?_
            clear hP hD hS
            intro H locs hP hD hS
            refine lv_iconst (v := 0) J.1 J.2.1 d_MD_load_83 (by decide) ?_
            refine lv_istore (lv' := [(5, .int 0), (0, .ref n0), (1, .int p1), (2, .int p2), (3, .int p3), (4, .int p4)]) J.1 J.2.1 d_MD_load_84 hl (by decide) rfl ?_
            clear hl
            intro ls hl
            exact kb_MD_load_86 J hJ hA hZ _ _ _ _ _ _ _ _ _ _ _ _ _ _ _ _ _ _ _ _ _ _ _ _ _ _ _ _ _ _ _ _ _ _ _ _ _ _ _ _ _ _ _ _ _ h hP hD hS (lv_sub hl [1, 2, 3, 4, 0] rfl)
          · replace h := g_f c_16 h
            refine lv_bipush (v := (-2)) J.1 J.2.1 d_MD_load_44 (by decide) ?_
            have h := Option.some.inj h
            have e_0 := (Prod.mk.inj h).1
            have h := (Prod.mk.inj h).2
            have e_1 := (Prod.mk.inj h).1
            have h := (Prod.mk.inj h).2
            have e_2 := (Prod.mk.inj h).1
            have h := (Prod.mk.inj h).2
            have e_3 := (Prod.mk.inj h).1
            have h := (Prod.mk.inj h).2
            have e_4 := (Prod.mk.inj h).1
            have h := (Prod.mk.inj h).2
            have e_5 := (Prod.mk.inj h).1
            have h := (Prod.mk.inj h).2
            have e_6 := (Prod.mk.inj h).1
            have h := (Prod.mk.inj h).2
            have e_7 := (Prod.mk.inj h).1
            have h := (Prod.mk.inj h).2
            have e_8 := (Prod.mk.inj h).1
            have h := (Prod.mk.inj h).2
            have e_9 := (Prod.mk.inj h).1
            have h := (Prod.mk.inj h).2
            have e_10 := (Prod.mk.inj h).1
            have h := (Prod.mk.inj h).2
            have e_11 := (Prod.mk.inj h).1
            have h := (Prod.mk.inj h).2
            have e_12 := (Prod.mk.inj h).1
            have h := (Prod.mk.inj h).2
            have e_13 := (Prod.mk.inj h).1
            have h := (Prod.mk.inj h).2
            have e_14 := (Prod.mk.inj h).1
            have h := (Prod.mk.inj h).2
            have e_15 := (Prod.mk.inj h).1
            have h := (Prod.mk.inj h).2
            have e_16 := (Prod.mk.inj h).1
            have h := (Prod.mk.inj h).2
            have e_17 := (Prod.mk.inj h).1
            have h := (Prod.mk.inj h).2
            have e_18 := (Prod.mk.inj h).1
            have h := (Prod.mk.inj h).2
            have e_19 := (Prod.mk.inj h).1
            have h := (Prod.mk.inj h).2
            have e_20 := (Prod.mk.inj h).1
            have h := (Prod.mk.inj h).2
            have e_21 := (Prod.mk.inj h).1
            have h := (Prod.mk.inj h).2
            have e_22 := (Prod.mk.inj h).1
            have h := (Prod.mk.inj h).2
            have e_23 := (Prod.mk.inj h).1
            have h := (Prod.mk.inj h).2
            have e_24 := (Prod.mk.inj h).1
            have h := (Prod.mk.inj h).2
            have e_25 := (Prod.mk.inj h).1
            have h := (Prod.mk.inj h).2
            have e_26 := (Prod.mk.inj h).1
            have h := (Prod.mk.inj h).2
            have e_27 := (Prod.mk.inj h).1
            have h := (Prod.mk.inj h).2
            have e_28 := (Prod.mk.inj h).1
            have h := (Prod.mk.inj h).2
            have e_29 := (Prod.mk.inj h).1
            have h := (Prod.mk.inj h).2
            have e_30 := (Prod.mk.inj h).1
            have h := (Prod.mk.inj h).2
            have e_31 := (Prod.mk.inj h).1
            have h := (Prod.mk.inj h).2
            have e_32 := (Prod.mk.inj h).1
            have h := (Prod.mk.inj h).2
            have e_33 := (Prod.mk.inj h).1
            have h := (Prod.mk.inj h).2
            rw [← e_0, ← e_1, ← e_2, ← e_3, ← e_4, ← e_5, ← e_6, ← e_7, ← e_8, ← e_9, ← e_10, ← e_11, ← e_12, ← e_13, ← e_14, ← e_15, ← e_16, ← e_17, ← e_18, ← e_19, ← e_20, ← e_21, ← e_22, ← e_23, ← e_24, ← e_25, ← e_26, ← e_27, ← e_28, ← e_29, ← e_30, ← e_31, ← e_32, ← e_33, ← h]
            exact jr_i J hS hP hD rfl d_MD_load_46

theorem hd_MD_fault : y_MD_fault.cls ≠ "java/lang/invoke/MethodHandle" ∧ y_MD_fault.cls ≠ "java/lang/invoke/VarHandle" ∧ (parseMethodDescriptor y_MD_fault.desc).map (fun d => d.parameters.length) = some 1 := by decide +kernel
def f_MD_fault (zfault : Int32) (zfaultLine : Int32) (zisTold : Int32) (p1 : Int32) : Option (Int32) := (if zisTold = (0 : Int32) then (some (-1)) else (if p1 = (0 : Int32) then (some zfault) else (if p1 = (1 : Int32) then (some zfaultLine) else (some (-1)))))
set_option maxHeartbeats 4000000 in
set_option maxRecDepth 100000 in
theorem ct_MD_fault (l : Launch) (E : jz_E) (n0 n_base n_bound n_depth n_disk n_halted n_isThere n_labelAddress n_labelFrom n_labelSize n_made n_memory n_mode n_output n_outs n_pc n_ranOut n_register n_size n_steps n_tape n_timer n_typed n_waits n_wants : Nat) (sz : Nat) (ztaped : Int32) (zat : Int32) (zend : Int32) (zline : Int32) (zlabels : Int32) (zfault : Int32) (zfaultLine : Int32) (zisTold : Int32) (zaddress : Int32) (zmissing : Int32) (zgood : Int32) (zvalue : Int32) (zvalueFrom : Int32) (zvalueSize : Int32) (zme : Int32) (p1 : Int32) (o_r : Int32)  (h : f_MD_fault zfault zfaultLine zisTold p1 = some o_r) : CTi l E y_MD_fault c_MD_fault 2 (some .int) ({ frames := 0, cells := 0, slots := 0, locals := 0 }) [.ref n0, .int p1] [(n0, .inr (6, [.ref n_tape, .int ztaped, .ref n_isThere, .ref n_size, .ref n_depth, .ref n_memory, .ref n_register, .ref n_mode, .ref n_pc, .ref n_base, .ref n_bound, .ref n_timer, .ref n_ranOut, .ref n_halted, .ref n_steps, .ref n_outs, .ref n_output, .ref n_waits, .ref n_typed, .ref n_disk, .ref n_wants, .int zat, .int zend, .int zline, .ref n_labelFrom, .ref n_labelSize, .ref n_labelAddress, .int zlabels, .int zfault, .int zfaultLine, .int zisTold, .int zaddress, .ref n_made, .int zmissing, .int zgood, .int zvalue, .int zvalueFrom, .int zvalueSize, .int zme]))] sz o_r [(n0, .inr (6, [.ref n_tape, .int ztaped, .ref n_isThere, .ref n_size, .ref n_depth, .ref n_memory, .ref n_register, .ref n_mode, .ref n_pc, .ref n_base, .ref n_bound, .ref n_timer, .ref n_ranOut, .ref n_halted, .ref n_steps, .ref n_outs, .ref n_output, .ref n_waits, .ref n_typed, .ref n_disk, .ref n_wants, .int zat, .int zend, .int zline, .ref n_labelFrom, .ref n_labelSize, .ref n_labelAddress, .int zlabels, .int zfault, .int zfaultLine, .int zisTold, .int zaddress, .ref n_made, .int zmissing, .int zgood, .int zvalue, .int zvalueFrom, .int zvalueSize, .int zme]))] := by
  refine jw (by decide +kernel) (Nat.le_of_ble_eq_true rfl) ?_
  intro p e s m below meth c A ls J hJ hAe hsz hA hZ hP hD hl
  rw [← hAe]
  have hS : va_S A s.heap s.heap [] := va_S.rf
  have hl : lv_has ls 2 [(0, .ref n0), (1, .int p1)] := hl
  unfold f_MD_fault at h
  refine lv_aload_n J.1 J.2.1 d_MD_fault_0 rfl (lv_at hl 0 rfl) ?_
  refine jg J hJ hP 0 rfl rfl i_MD 30 (by decide) gf_MD_250 rfl d_MD_fault_1 ?_
  refine lv_if_ne (tgt := 11) J.1 J.2.1 d_MD_fault_4 (by decide) (fun c_1 => ?_) (fun c_1 => ?_)
  · replace h := g_f c_1 h
    refine lv_iload_n J.1 J.2.1 d_MD_fault_11 rfl (lv_at hl 1 rfl) ?_
    refine lv_if_ne (tgt := 22) J.1 J.2.1 d_MD_fault_12 (by decide) (fun c_2 => ?_) (fun c_2 => ?_)
    · replace h := g_f c_2 h
      refine lv_iload_n J.1 J.2.1 d_MD_fault_22 rfl (lv_at hl 1 rfl) ?_
      refine lv_iconst (v := 1) J.1 J.2.1 d_MD_fault_23 (by decide) ?_
      refine lv_icmp_ne (tgt := 34) J.1 J.2.1 d_MD_fault_24 (by decide) (fun c_3 => ?_) (fun c_3 => ?_)
      · replace h := g_f c_3 h
        refine lv_iconst (v := (-1)) J.1 J.2.1 d_MD_fault_34 (by decide) ?_
        have h := Option.some.inj h
        rw [← h]
        exact jr_i J hS hP hD rfl d_MD_fault_35
      · replace h := g_t c_3 h
        refine lv_aload_n J.1 J.2.1 d_MD_fault_27 rfl (lv_at hl 0 rfl) ?_
        refine jg J hJ hP 0 rfl rfl i_MD 29 (by decide) gf_MD_243 rfl d_MD_fault_28 ?_
        refine lv_goto (tgt := 35) J.1 J.2.1 d_MD_fault_31 (by decide) ?_
        have h := Option.some.inj h
        rw [← h]
        exact jr_i J hS hP hD rfl d_MD_fault_35
    · replace h := g_t c_2 h
      refine lv_aload_n J.1 J.2.1 d_MD_fault_15 rfl (lv_at hl 0 rfl) ?_
      refine jg J hJ hP 0 rfl rfl i_MD 28 (by decide) gf_MD_240 rfl d_MD_fault_16 ?_
      refine lv_goto (tgt := 35) J.1 J.2.1 d_MD_fault_19 (by decide) ?_
      have h := Option.some.inj h
      rw [← h]
      exact jr_i J hS hP hD rfl d_MD_fault_35
  · replace h := g_t c_1 h
    refine lv_iconst (v := (-1)) J.1 J.2.1 d_MD_fault_7 (by decide) ?_
    refine lv_goto (tgt := 35) J.1 J.2.1 d_MD_fault_8 (by decide) ?_
    have h := Option.some.inj h
    rw [← h]
    exact jr_i J hS hP hD rfl d_MD_fault_35

theorem hd_MD_isGood : y_MD_isGood.cls ≠ "java/lang/invoke/MethodHandle" ∧ y_MD_isGood.cls ≠ "java/lang/invoke/VarHandle" ∧ (parseMethodDescriptor y_MD_isGood.desc).map (fun d => d.parameters.length) = some 1 := by decide +kernel
def f_MD_isGood (zme : Int32) (zsize : Nat → Int32) (zbase : Nat → Int32) (zbound : Nat → Int32) (p1 : Int32) : Option (Int32) := (if ck zme 3 then (if (zbound zme.toNatClampNeg) ≤ p1 then (some 0) else (if ck zme 3 then (if ck zme 3 then (if (zsize zme.toNatClampNeg) ≤ ((zbase zme.toNatClampNeg) + p1) then (some 0) else (some 1)) else none) else none)) else none)
set_option maxHeartbeats 4000000 in
set_option maxRecDepth 100000 in
theorem ct_MD_isGood (l : Launch) (E : jz_E) (n0 n_base n_bound n_depth n_disk n_halted n_isThere n_labelAddress n_labelFrom n_labelSize n_made n_memory n_mode n_output n_outs n_pc n_ranOut n_register n_size n_steps n_tape n_timer n_typed n_waits n_wants : Nat) (sz : Nat) (ztaped : Int32) (zat : Int32) (zend : Int32) (zline : Int32) (zlabels : Int32) (zfault : Int32) (zfaultLine : Int32) (zisTold : Int32) (zaddress : Int32) (zmissing : Int32) (zgood : Int32) (zvalue : Int32) (zvalueFrom : Int32) (zvalueSize : Int32) (zme : Int32) (zsize : Nat → Int32) (zbase : Nat → Int32) (zbound : Nat → Int32) (p1 : Int32) (o_r : Int32)  (h : f_MD_isGood zme zsize zbase zbound p1 = some o_r) : CTi l E y_MD_isGood c_MD_isGood 2 (some .boolean) ({ frames := 0, cells := 0, slots := 0, locals := 0 }) [.ref n0, .int p1] [(n0, .inr (6, [.ref n_tape, .int ztaped, .ref n_isThere, .ref n_size, .ref n_depth, .ref n_memory, .ref n_register, .ref n_mode, .ref n_pc, .ref n_base, .ref n_bound, .ref n_timer, .ref n_ranOut, .ref n_halted, .ref n_steps, .ref n_outs, .ref n_output, .ref n_waits, .ref n_typed, .ref n_disk, .ref n_wants, .int zat, .int zend, .int zline, .ref n_labelFrom, .ref n_labelSize, .ref n_labelAddress, .int zlabels, .int zfault, .int zfaultLine, .int zisTold, .int zaddress, .ref n_made, .int zmissing, .int zgood, .int zvalue, .int zvalueFrom, .int zvalueSize, .int zme])), (n_size, .inl (E.2.1 0, 3, .inl zsize)), (n_base, .inl (E.2.1 0, 3, .inl zbase)), (n_bound, .inl (E.2.1 0, 3, .inl zbound))] sz o_r [(n0, .inr (6, [.ref n_tape, .int ztaped, .ref n_isThere, .ref n_size, .ref n_depth, .ref n_memory, .ref n_register, .ref n_mode, .ref n_pc, .ref n_base, .ref n_bound, .ref n_timer, .ref n_ranOut, .ref n_halted, .ref n_steps, .ref n_outs, .ref n_output, .ref n_waits, .ref n_typed, .ref n_disk, .ref n_wants, .int zat, .int zend, .int zline, .ref n_labelFrom, .ref n_labelSize, .ref n_labelAddress, .int zlabels, .int zfault, .int zfaultLine, .int zisTold, .int zaddress, .ref n_made, .int zmissing, .int zgood, .int zvalue, .int zvalueFrom, .int zvalueSize, .int zme])), (n_size, .inl (E.2.1 0, 3, .inl zsize)), (n_base, .inl (E.2.1 0, 3, .inl zbase)), (n_bound, .inl (E.2.1 0, 3, .inl zbound))] := by
  refine jw (by decide +kernel) (Nat.le_of_ble_eq_true rfl) ?_
  intro p e s m below meth c A ls J hJ hAe hsz hA hZ hP hD hl
  rw [← hAe]
  have hS : va_S A s.heap s.heap [] := va_S.rf
  have hl : lv_has ls 2 [(0, .ref n0), (1, .int p1)] := hl
  unfold f_MD_isGood at h
  refine lv_iload_n J.1 J.2.1 d_MD_isGood_0 rfl (lv_at hl 1 rfl) ?_
  refine lv_aload_n J.1 J.2.1 d_MD_isGood_1 rfl (lv_at hl 0 rfl) ?_
  refine jg J hJ hP 0 rfl rfl i_MD 10 (by decide) gf_MD_47 rfl d_MD_isGood_2 ?_
  refine lv_aload_n J.1 J.2.1 d_MD_isGood_5 rfl (lv_at hl 0 rfl) ?_
  refine jg J hJ hP 0 rfl rfl i_MD 38 (by decide) gf_MD_261 rfl d_MD_isGood_6 ?_
  replace h := g_ck h
  obtain ⟨k_1, h⟩ := h
  refine jai J hJ hP 3 rfl k_1 d_MD_isGood_9 ?_
  refine lv_icmp_ge (tgt := 40) J.1 J.2.1 d_MD_isGood_10 (by decide) (fun c_2 => ?_) (fun c_2 => ?_)
  · replace h := g_t c_2 h
    refine lv_iconst (v := 0) J.1 J.2.1 d_MD_isGood_40 (by decide) ?_
    have h := Option.some.inj h
    rw [← h]
    exact jr_i J hS hP hD rfl d_MD_isGood_41
  · replace h := g_f c_2 h
    refine lv_aload_n J.1 J.2.1 d_MD_isGood_13 rfl (lv_at hl 0 rfl) ?_
    refine jg J hJ hP 0 rfl rfl i_MD 9 (by decide) gf_MD_44 rfl d_MD_isGood_14 ?_
    refine lv_aload_n J.1 J.2.1 d_MD_isGood_17 rfl (lv_at hl 0 rfl) ?_
    refine jg J hJ hP 0 rfl rfl i_MD 38 (by decide) gf_MD_261 rfl d_MD_isGood_18 ?_
    replace h := g_ck h
    obtain ⟨k_3, h⟩ := h
    refine jai J hJ hP 2 rfl k_3 d_MD_isGood_21 ?_
    refine lv_iload_n J.1 J.2.1 d_MD_isGood_22 rfl (lv_at hl 1 rfl) ?_
    refine lv_iadd J.1 J.2.1 d_MD_isGood_23 ?_
    refine lv_aload_n J.1 J.2.1 d_MD_isGood_24 rfl (lv_at hl 0 rfl) ?_
    refine jg J hJ hP 0 rfl rfl i_MD 3 (by decide) gf_MD_25 rfl d_MD_isGood_25 ?_
    refine lv_aload_n J.1 J.2.1 d_MD_isGood_28 rfl (lv_at hl 0 rfl) ?_
    refine jg J hJ hP 0 rfl rfl i_MD 38 (by decide) gf_MD_261 rfl d_MD_isGood_29 ?_
    replace h := g_ck h
    obtain ⟨k_4, h⟩ := h
    refine jai J hJ hP 1 rfl k_4 d_MD_isGood_32 ?_
    refine lv_icmp_ge (tgt := 40) J.1 J.2.1 d_MD_isGood_33 (by decide) (fun c_5 => ?_) (fun c_5 => ?_)
    · replace h := g_t c_5 h
      refine lv_iconst (v := 0) J.1 J.2.1 d_MD_isGood_40 (by decide) ?_
      have h := Option.some.inj h
      rw [← h]
      exact jr_i J hS hP hD rfl d_MD_isGood_41
    · replace h := g_f c_5 h
      refine lv_iconst (v := 1) J.1 J.2.1 d_MD_isGood_36 (by decide) ?_
      refine lv_goto (tgt := 41) J.1 J.2.1 d_MD_isGood_37 (by decide) ?_
      have h := Option.some.inj h
      rw [← h]
      exact jr_i J hS hP hD rfl d_MD_isGood_41

theorem hd_MD_get : y_MD_get.cls ≠ "java/lang/invoke/MethodHandle" ∧ y_MD_get.cls ≠ "java/lang/invoke/VarHandle" ∧ (parseMethodDescriptor y_MD_get.desc).map (fun d => d.parameters.length) = some 1 := by decide +kernel
def f_MD_get (zme : Int32) (zmemory : Nat → Int32) (zbase : Nat → Int32) (p1 : Int32) : Option (Int32) := (if ck zme 3 then (if ck (((1024 * zme) + (zbase zme.toNatClampNeg)) + p1) 3072 then (some (zmemory (((1024 * zme) + (zbase zme.toNatClampNeg)) + p1).toNatClampNeg)) else none) else none)
set_option maxHeartbeats 4000000 in
set_option maxRecDepth 100000 in
theorem ct_MD_get (l : Launch) (E : jz_E) (n0 n_base n_bound n_depth n_disk n_halted n_isThere n_labelAddress n_labelFrom n_labelSize n_made n_memory n_mode n_output n_outs n_pc n_ranOut n_register n_size n_steps n_tape n_timer n_typed n_waits n_wants : Nat) (sz : Nat) (ztaped : Int32) (zat : Int32) (zend : Int32) (zline : Int32) (zlabels : Int32) (zfault : Int32) (zfaultLine : Int32) (zisTold : Int32) (zaddress : Int32) (zmissing : Int32) (zgood : Int32) (zvalue : Int32) (zvalueFrom : Int32) (zvalueSize : Int32) (zme : Int32) (zmemory : Nat → Int32) (zbase : Nat → Int32) (p1 : Int32) (o_r : Int32)  (h : f_MD_get zme zmemory zbase p1 = some o_r) : CTi l E y_MD_get c_MD_get 2 (some .int) ({ frames := 0, cells := 0, slots := 0, locals := 0 }) [.ref n0, .int p1] [(n0, .inr (6, [.ref n_tape, .int ztaped, .ref n_isThere, .ref n_size, .ref n_depth, .ref n_memory, .ref n_register, .ref n_mode, .ref n_pc, .ref n_base, .ref n_bound, .ref n_timer, .ref n_ranOut, .ref n_halted, .ref n_steps, .ref n_outs, .ref n_output, .ref n_waits, .ref n_typed, .ref n_disk, .ref n_wants, .int zat, .int zend, .int zline, .ref n_labelFrom, .ref n_labelSize, .ref n_labelAddress, .int zlabels, .int zfault, .int zfaultLine, .int zisTold, .int zaddress, .ref n_made, .int zmissing, .int zgood, .int zvalue, .int zvalueFrom, .int zvalueSize, .int zme])), (n_memory, .inl (E.2.1 0, 3072, .inl zmemory)), (n_base, .inl (E.2.1 0, 3, .inl zbase))] sz o_r [(n0, .inr (6, [.ref n_tape, .int ztaped, .ref n_isThere, .ref n_size, .ref n_depth, .ref n_memory, .ref n_register, .ref n_mode, .ref n_pc, .ref n_base, .ref n_bound, .ref n_timer, .ref n_ranOut, .ref n_halted, .ref n_steps, .ref n_outs, .ref n_output, .ref n_waits, .ref n_typed, .ref n_disk, .ref n_wants, .int zat, .int zend, .int zline, .ref n_labelFrom, .ref n_labelSize, .ref n_labelAddress, .int zlabels, .int zfault, .int zfaultLine, .int zisTold, .int zaddress, .ref n_made, .int zmissing, .int zgood, .int zvalue, .int zvalueFrom, .int zvalueSize, .int zme])), (n_memory, .inl (E.2.1 0, 3072, .inl zmemory)), (n_base, .inl (E.2.1 0, 3, .inl zbase))] := by
  refine jw (by decide +kernel) (Nat.le_of_ble_eq_true rfl) ?_
  intro p e s m below meth c A ls J hJ hAe hsz hA hZ hP hD hl
  rw [← hAe]
  have hS : va_S A s.heap s.heap [] := va_S.rf
  have hl : lv_has ls 2 [(0, .ref n0), (1, .int p1)] := hl
  unfold f_MD_get at h
  refine lv_aload_n J.1 J.2.1 d_MD_get_0 rfl (lv_at hl 0 rfl) ?_
  refine jg J hJ hP 0 rfl rfl i_MD 5 (by decide) gf_MD_32 rfl d_MD_get_1 ?_
  refine lv_sipush (v := 1024) J.1 J.2.1 d_MD_get_4 (by decide) ?_
  refine lv_aload_n J.1 J.2.1 d_MD_get_7 rfl (lv_at hl 0 rfl) ?_
  refine jg J hJ hP 0 rfl rfl i_MD 38 (by decide) gf_MD_261 rfl d_MD_get_8 ?_
  refine lv_imul J.1 J.2.1 d_MD_get_11 ?_
  refine lv_aload_n J.1 J.2.1 d_MD_get_12 rfl (lv_at hl 0 rfl) ?_
  refine jg J hJ hP 0 rfl rfl i_MD 9 (by decide) gf_MD_44 rfl d_MD_get_13 ?_
  refine lv_aload_n J.1 J.2.1 d_MD_get_16 rfl (lv_at hl 0 rfl) ?_
  refine jg J hJ hP 0 rfl rfl i_MD 38 (by decide) gf_MD_261 rfl d_MD_get_17 ?_
  replace h := g_ck h
  obtain ⟨k_1, h⟩ := h
  refine jai J hJ hP 2 rfl k_1 d_MD_get_20 ?_
  refine lv_iadd J.1 J.2.1 d_MD_get_21 ?_
  refine lv_iload_n J.1 J.2.1 d_MD_get_22 rfl (lv_at hl 1 rfl) ?_
  refine lv_iadd J.1 J.2.1 d_MD_get_23 ?_
  replace h := g_ck h
  obtain ⟨k_2, h⟩ := h
  refine jai J hJ hP 1 rfl k_2 d_MD_get_24 ?_
  have h := Option.some.inj h
  rw [← h]
  exact jr_i J hS hP hD rfl d_MD_get_25

theorem hd_MD_set : y_MD_set.cls ≠ "java/lang/invoke/MethodHandle" ∧ y_MD_set.cls ≠ "java/lang/invoke/VarHandle" ∧ (parseMethodDescriptor y_MD_set.desc).map (fun d => d.parameters.length) = some 2 := by decide +kernel
def f_MD_set (zme : Int32) (zmemory : Nat → Int32) (zbase : Nat → Int32) (p1 : Int32) (p2 : Int32) : Option ((Nat → Int32)) := (if ck zme 3 then (if ck (((1024 * zme) + (zbase zme.toNatClampNeg)) + p1) 3072 then (some (upd zmemory (((1024 * zme) + (zbase zme.toNatClampNeg)) + p1).toNatClampNeg p2)) else none) else none)
set_option maxHeartbeats 4000000 in
set_option maxRecDepth 100000 in
theorem ct_MD_set (l : Launch) (E : jz_E) (n0 n_base n_bound n_depth n_disk n_halted n_isThere n_labelAddress n_labelFrom n_labelSize n_made n_memory n_mode n_output n_outs n_pc n_ranOut n_register n_size n_steps n_tape n_timer n_typed n_waits n_wants : Nat) (sz : Nat) (ztaped : Int32) (zat : Int32) (zend : Int32) (zline : Int32) (zlabels : Int32) (zfault : Int32) (zfaultLine : Int32) (zisTold : Int32) (zaddress : Int32) (zmissing : Int32) (zgood : Int32) (zvalue : Int32) (zvalueFrom : Int32) (zvalueSize : Int32) (zme : Int32) (zmemory : Nat → Int32) (zbase : Nat → Int32) (p1 : Int32) (p2 : Int32) (o_zmemory : Nat → Int32)  (h : f_MD_set zme zmemory zbase p1 p2 = some o_zmemory) : CTv l E y_MD_set c_MD_set 3 none ({ frames := 0, cells := 0, slots := 0, locals := 0 }) [.ref n0, .int p1, .int p2] [(n0, .inr (6, [.ref n_tape, .int ztaped, .ref n_isThere, .ref n_size, .ref n_depth, .ref n_memory, .ref n_register, .ref n_mode, .ref n_pc, .ref n_base, .ref n_bound, .ref n_timer, .ref n_ranOut, .ref n_halted, .ref n_steps, .ref n_outs, .ref n_output, .ref n_waits, .ref n_typed, .ref n_disk, .ref n_wants, .int zat, .int zend, .int zline, .ref n_labelFrom, .ref n_labelSize, .ref n_labelAddress, .int zlabels, .int zfault, .int zfaultLine, .int zisTold, .int zaddress, .ref n_made, .int zmissing, .int zgood, .int zvalue, .int zvalueFrom, .int zvalueSize, .int zme])), (n_memory, .inl (E.2.1 0, 3072, .inl zmemory)), (n_base, .inl (E.2.1 0, 3, .inl zbase))] sz [(n0, .inr (6, [.ref n_tape, .int ztaped, .ref n_isThere, .ref n_size, .ref n_depth, .ref n_memory, .ref n_register, .ref n_mode, .ref n_pc, .ref n_base, .ref n_bound, .ref n_timer, .ref n_ranOut, .ref n_halted, .ref n_steps, .ref n_outs, .ref n_output, .ref n_waits, .ref n_typed, .ref n_disk, .ref n_wants, .int zat, .int zend, .int zline, .ref n_labelFrom, .ref n_labelSize, .ref n_labelAddress, .int zlabels, .int zfault, .int zfaultLine, .int zisTold, .int zaddress, .ref n_made, .int zmissing, .int zgood, .int zvalue, .int zvalueFrom, .int zvalueSize, .int zme])), (n_memory, .inl (E.2.1 0, 3072, .inl o_zmemory)), (n_base, .inl (E.2.1 0, 3, .inl zbase))] := by
  refine jw (by decide +kernel) (Nat.le_of_ble_eq_true rfl) ?_
  intro p e s m below meth c A ls J hJ hAe hsz hA hZ hP hD hl
  rw [← hAe]
  have hS : va_S A s.heap s.heap [] := va_S.rf
  have hl : lv_has ls 3 [(0, .ref n0), (1, .int p1), (2, .int p2)] := hl
  unfold f_MD_set at h
  refine lv_aload_n J.1 J.2.1 d_MD_set_0 rfl (lv_at hl 0 rfl) ?_
  refine jg J hJ hP 0 rfl rfl i_MD 5 (by decide) gf_MD_32 rfl d_MD_set_1 ?_
  refine lv_sipush (v := 1024) J.1 J.2.1 d_MD_set_4 (by decide) ?_
  refine lv_aload_n J.1 J.2.1 d_MD_set_7 rfl (lv_at hl 0 rfl) ?_
  refine jg J hJ hP 0 rfl rfl i_MD 38 (by decide) gf_MD_261 rfl d_MD_set_8 ?_
  refine lv_imul J.1 J.2.1 d_MD_set_11 ?_
  refine lv_aload_n J.1 J.2.1 d_MD_set_12 rfl (lv_at hl 0 rfl) ?_
  refine jg J hJ hP 0 rfl rfl i_MD 9 (by decide) gf_MD_44 rfl d_MD_set_13 ?_
  refine lv_aload_n J.1 J.2.1 d_MD_set_16 rfl (lv_at hl 0 rfl) ?_
  refine jg J hJ hP 0 rfl rfl i_MD 38 (by decide) gf_MD_261 rfl d_MD_set_17 ?_
  replace h := g_ck h
  obtain ⟨k_1, h⟩ := h
  refine jai J hJ hP 2 rfl k_1 d_MD_set_20 ?_
  refine lv_iadd J.1 J.2.1 d_MD_set_21 ?_
  refine lv_iload_n J.1 J.2.1 d_MD_set_22 rfl (lv_at hl 1 rfl) ?_
  refine lv_iadd J.1 J.2.1 d_MD_set_23 ?_
  refine lv_iload_n J.1 J.2.1 d_MD_set_24 rfl (lv_at hl 2 rfl) ?_
  replace h := g_ck h
  obtain ⟨k_2, h⟩ := h
  refine jsi J hJ hP hD hS 1 rfl k_2 d_MD_set_25 (WS' := [(n0, .inr (6, [.ref n_tape, .int ztaped, .ref n_isThere, .ref n_size, .ref n_depth, .ref n_memory, .ref n_register, .ref n_mode, .ref n_pc, .ref n_base, .ref n_bound, .ref n_timer, .ref n_ranOut, .ref n_halted, .ref n_steps, .ref n_outs, .ref n_output, .ref n_waits, .ref n_typed, .ref n_disk, .ref n_wants, .int zat, .int zend, .int zline, .ref n_labelFrom, .ref n_labelSize, .ref n_labelAddress, .int zlabels, .int zfault, .int zfaultLine, .int zisTold, .int zaddress, .ref n_made, .int zmissing, .int zgood, .int zvalue, .int zvalueFrom, .int zvalueSize, .int zme])), (n_memory, .inl (E.2.1 0, 3072, .inl (upd zmemory (((1024 * zme) + (zbase zme.toNatClampNeg)) + p1).toNatClampNeg p2))), (n_base, .inl (E.2.1 0, 3, .inl zbase))]) rfl ?_
  clear hP hD hS
  intro H locs hP hD hS
  have h := Option.some.inj h
  rw [← h]
  exact jr_v J hS hP hD d_MD_set_26

theorem hd_MD_trap : y_MD_trap.cls ≠ "java/lang/invoke/MethodHandle" ∧ y_MD_trap.cls ≠ "java/lang/invoke/VarHandle" ∧ (parseMethodDescriptor y_MD_trap.desc).map (fun d => d.parameters.length) = some 3 := by decide +kernel
def b_MD_trap_120 (zme : Int32) (zmemory : Nat → Int32) (zmode : Nat → Int32) (zpc : Nat → Int32) (zbase : Nat → Int32) (zbound : Nat → Int32) (zranOut : Nat → Int32) (x1 : Int32) (x4 : Int32) : Option ((Nat → Int32) × (Nat → Int32) × (Nat → Int32) × (Nat → Int32) × (Nat → Int32) × (Nat → Int32)) := (if ck (x4 + 5) 3072 then (if ck zme 3 then (if ck (x4 + 6) 3072 then (if ck zme 3 then (if ck (x4 + 7) 3072 then (if ck zme 3 then (if x1 = (4 : Int32) then (if ck zme 3 then (some (zmemory, zmode, (upd zpc zme.toNatClampNeg (zmemory (x4 + 5).toNatClampNeg)), (upd zbase zme.toNatClampNeg (zmemory (x4 + 6).toNatClampNeg)), (upd zbound zme.toNatClampNeg (zmemory (x4 + 7).toNatClampNeg)), (upd zranOut zme.toNatClampNeg (vp_nar .boolean 0)))) else none) else (some (zmemory, zmode, (upd zpc zme.toNatClampNeg (zmemory (x4 + 5).toNatClampNeg)), (upd zbase zme.toNatClampNeg (zmemory (x4 + 6).toNatClampNeg)), (upd zbound zme.toNatClampNeg (zmemory (x4 + 7).toNatClampNeg)), zranOut))) else none) else none) else none) else none) else none) else none)
def f_MD_trap (zme : Int32) (zmemory : Nat → Int32) (zmode : Nat → Int32) (zpc : Nat → Int32) (zbase : Nat → Int32) (zbound : Nat → Int32) (zranOut : Nat → Int32) (p1 : Int32) (p2 : Int32) (p3 : Int32) : Option ((Nat → Int32) × (Nat → Int32) × (Nat → Int32) × (Nat → Int32) × (Nat → Int32) × (Nat → Int32)) := (if ck zme 3 then (if ck (1024 * zme) 3072 then (if ck ((1024 * zme) + 1) 3072 then (if ck zme 3 then (if ck ((1024 * zme) + 2) 3072 then (if ck zme 3 then (if ck ((1024 * zme) + 3) 3072 then (if ck ((1024 * zme) + 8) 3072 then (if ck ((1024 * zme) + 9) 3072 then (if ck ((1024 * zme) + 4) 3072 then (if ((upd (upd (upd (upd (upd (upd zmemory (1024 * zme).toNatClampNeg (zmode zme.toNatClampNeg)) ((1024 * zme) + 1).toNatClampNeg p3) ((1024 * zme) + 2).toNatClampNeg (zbase zme.toNatClampNeg)) ((1024 * zme) + 3).toNatClampNeg (zbound zme.toNatClampNeg)) ((1024 * zme) + 8).toNatClampNeg p1) ((1024 * zme) + 9).toNatClampNeg p2) ((1024 * zme) + 4).toNatClampNeg) = (0 : Int32) then (if ck zme 3 then b_MD_trap_120 zme (upd (upd (upd (upd (upd (upd zmemory (1024 * zme).toNatClampNeg (zmode zme.toNatClampNeg)) ((1024 * zme) + 1).toNatClampNeg p3) ((1024 * zme) + 2).toNatClampNeg (zbase zme.toNatClampNeg)) ((1024 * zme) + 3).toNatClampNeg (zbound zme.toNatClampNeg)) ((1024 * zme) + 8).toNatClampNeg p1) ((1024 * zme) + 9).toNatClampNeg p2) (upd zmode zme.toNatClampNeg 0) zpc zbase zbound zranOut p1 (1024 * zme) else none) else (if ck zme 3 then b_MD_trap_120 zme (upd (upd (upd (upd (upd (upd zmemory (1024 * zme).toNatClampNeg (zmode zme.toNatClampNeg)) ((1024 * zme) + 1).toNatClampNeg p3) ((1024 * zme) + 2).toNatClampNeg (zbase zme.toNatClampNeg)) ((1024 * zme) + 3).toNatClampNeg (zbound zme.toNatClampNeg)) ((1024 * zme) + 8).toNatClampNeg p1) ((1024 * zme) + 9).toNatClampNeg p2) (upd zmode zme.toNatClampNeg 1) zpc zbase zbound zranOut p1 (1024 * zme) else none)) else none) else none) else none) else none) else none) else none) else none) else none) else none) else none)
set_option maxHeartbeats 4000000 in
set_option maxRecDepth 100000 in
theorem kb_MD_trap_120 {p : Program} {l : Launch} {e : Env} {s : State} {m : MethodId} {below : List Frame} {meth : Method} {c : Code} {A : Nat → Prop} {E : jz_E} {n0 n_base n_bound n_depth n_disk n_halted n_isThere n_labelAddress n_labelFrom n_labelSize n_made n_memory n_mode n_output n_outs n_pc n_ranOut n_register n_size n_steps n_tape n_timer n_typed n_waits n_wants : Nat} {p1 : Int32} {p2 : Int32} {p3 : Int32} {o_zmemory : Nat → Int32} {o_zmode : Nat → Int32} {o_zpc : Nat → Int32} {o_zbase : Nat → Int32} {o_zbound : Nat → Int32} {o_zranOut : Nat → Int32} (J : JC p s m ([.ref n0, .int p1, .int p2, .int p3] : List Value).toArray meth c c_MD_trap 5 none y_MD_trap.cls) (hJ : jE E s) (hA : ∀ q : Nat, s.heap.size ≤ q → A q) (hZ : jz_ok E A s s.heap) : ∀ (ztaped : Int32) (zat : Int32) (zend : Int32) (zline : Int32) (zlabels : Int32) (zfault : Int32) (zfaultLine : Int32) (zisTold : Int32) (zaddress : Int32) (zmissing : Int32) (zgood : Int32) (zvalue : Int32) (zvalueFrom : Int32) (zvalueSize : Int32) (zme : Int32) (zmemory : Nat → Int32) (zmode : Nat → Int32) (zpc : Nat → Int32) (zbase : Nat → Int32) (zbound : Nat → Int32) (zranOut : Nat → Int32) (x1 : Int32) (x4 : Int32) (H : Heap) (locs : List Loc) (ls : Array Slot), b_MD_trap_120 zme zmemory zmode zpc zbase zbound zranOut x1 x4 = some (o_zmemory, o_zmode, o_zpc, o_zbase, o_zbound, o_zranOut) → va_P E.1 classes [(n0, .inr (6, [.ref n_tape, .int ztaped, .ref n_isThere, .ref n_size, .ref n_depth, .ref n_memory, .ref n_register, .ref n_mode, .ref n_pc, .ref n_base, .ref n_bound, .ref n_timer, .ref n_ranOut, .ref n_halted, .ref n_steps, .ref n_outs, .ref n_output, .ref n_waits, .ref n_typed, .ref n_disk, .ref n_wants, .int zat, .int zend, .int zline, .ref n_labelFrom, .ref n_labelSize, .ref n_labelAddress, .int zlabels, .int zfault, .int zfaultLine, .int zisTold, .int zaddress, .ref n_made, .int zmissing, .int zgood, .int zvalue, .int zvalueFrom, .int zvalueSize, .int zme])), (n_memory, .inl (E.2.1 0, 3072, .inl zmemory)), (n_mode, .inl (E.2.1 0, 3, .inl zmode)), (n_pc, .inl (E.2.1 0, 3, .inl zpc)), (n_base, .inl (E.2.1 0, 3, .inl zbase)), (n_bound, .inl (E.2.1 0, 3, .inl zbound)), (n_ranOut, .inl (E.2.1 3, 3, .inl zranOut))] H → va_D A [(n0, .inr (6, [.ref n_tape, .int ztaped, .ref n_isThere, .ref n_size, .ref n_depth, .ref n_memory, .ref n_register, .ref n_mode, .ref n_pc, .ref n_base, .ref n_bound, .ref n_timer, .ref n_ranOut, .ref n_halted, .ref n_steps, .ref n_outs, .ref n_output, .ref n_waits, .ref n_typed, .ref n_disk, .ref n_wants, .int zat, .int zend, .int zline, .ref n_labelFrom, .ref n_labelSize, .ref n_labelAddress, .int zlabels, .int zfault, .int zfaultLine, .int zisTold, .int zaddress, .ref n_made, .int zmissing, .int zgood, .int zvalue, .int zvalueFrom, .int zvalueSize, .int zme])), (n_memory, .inl (E.2.1 0, 3072, .inl zmemory)), (n_mode, .inl (E.2.1 0, 3, .inl zmode)), (n_pc, .inl (E.2.1 0, 3, .inl zpc)), (n_base, .inl (E.2.1 0, 3, .inl zbase)), (n_bound, .inl (E.2.1 0, 3, .inl zbound)), (n_ranOut, .inl (E.2.1 3, 3, .inl zranOut))] → va_S A s.heap H locs → lv_has ls 5 [(0, .ref n0), (1, .int x1), (4, .int x4)] → W p l e ({ frames := 0, cells := 0, slots := 0, locals := 0 }) s m ([.ref n0, .int p1, .int p2, .int p3] : List Value).toArray below meth c H locs 0 0 (MQ below (va_Qv (fun (u : va_W) => u = [(n0, .inr (6, [.ref n_tape, .int ztaped, .ref n_isThere, .ref n_size, .ref n_depth, .ref n_memory, .ref n_register, .ref n_mode, .ref n_pc, .ref n_base, .ref n_bound, .ref n_timer, .ref n_ranOut, .ref n_halted, .ref n_steps, .ref n_outs, .ref n_output, .ref n_waits, .ref n_typed, .ref n_disk, .ref n_wants, .int zat, .int zend, .int zline, .ref n_labelFrom, .ref n_labelSize, .ref n_labelAddress, .int zlabels, .int zfault, .int zfaultLine, .int zisTold, .int zaddress, .ref n_made, .int zmissing, .int zgood, .int zvalue, .int zvalueFrom, .int zvalueSize, .int zme])), (n_memory, .inl (E.2.1 0, 3072, .inl o_zmemory)), (n_mode, .inl (E.2.1 0, 3, .inl o_zmode)), (n_pc, .inl (E.2.1 0, 3, .inl o_zpc)), (n_base, .inl (E.2.1 0, 3, .inl o_zbase)), (n_bound, .inl (E.2.1 0, 3, .inl o_zbound)), (n_ranOut, .inl (E.2.1 3, 3, .inl o_zranOut))]) (BW E A) A) ([.ref n0, .int p1, .int p2, .int p3] : List Value).toArray s 0 0 A) (F0 m 120 ls []) := by
  intro ztaped zat zend zline zlabels zfault zfaultLine zisTold zaddress zmissing zgood zvalue zvalueFrom zvalueSize zme zmemory zmode zpc zbase zbound zranOut x1 x4 H locs ls h hP hD hS hl
  rw [b_MD_trap_120] at h
  refine lv_aload_n J.1 J.2.1 d_MD_trap_120 rfl (lv_at hl 0 rfl) ?_
  refine jg J hJ hP 0 rfl rfl i_MD 8 (by decide) gf_MD_41 rfl d_MD_trap_121 ?_
  refine lv_aload_n J.1 J.2.1 d_MD_trap_124 rfl (lv_at hl 0 rfl) ?_
  refine jg J hJ hP 0 rfl rfl i_MD 38 (by decide) gf_MD_261 rfl d_MD_trap_125 ?_
  refine lv_aload_n J.1 J.2.1 d_MD_trap_128 rfl (lv_at hl 0 rfl) ?_
  refine jg J hJ hP 0 rfl rfl i_MD 5 (by decide) gf_MD_32 rfl d_MD_trap_129 ?_
  refine lv_iload J.1 J.2.1 d_MD_trap_132 (lv_at hl 2 rfl) ?_
  refine lv_iconst (v := 5) J.1 J.2.1 d_MD_trap_134 (by decide) ?_
  refine lv_iadd J.1 J.2.1 d_MD_trap_135 ?_
  replace h := g_ck h
  obtain ⟨k_1, h⟩ := h
  refine jai J hJ hP 1 rfl k_1 d_MD_trap_136 ?_
  replace h := g_ck h
  obtain ⟨k_2, h⟩ := h
  refine jsi J hJ hP hD hS 3 rfl k_2 d_MD_trap_137 (WS' := [(n0, .inr (6, [.ref n_tape, .int ztaped, .ref n_isThere, .ref n_size, .ref n_depth, .ref n_memory, .ref n_register, .ref n_mode, .ref n_pc, .ref n_base, .ref n_bound, .ref n_timer, .ref n_ranOut, .ref n_halted, .ref n_steps, .ref n_outs, .ref n_output, .ref n_waits, .ref n_typed, .ref n_disk, .ref n_wants, .int zat, .int zend, .int zline, .ref n_labelFrom, .ref n_labelSize, .ref n_labelAddress, .int zlabels, .int zfault, .int zfaultLine, .int zisTold, .int zaddress, .ref n_made, .int zmissing, .int zgood, .int zvalue, .int zvalueFrom, .int zvalueSize, .int zme])), (n_memory, .inl (E.2.1 0, 3072, .inl zmemory)), (n_mode, .inl (E.2.1 0, 3, .inl zmode)), (n_pc, .inl (E.2.1 0, 3, .inl (upd zpc zme.toNatClampNeg (zmemory (x4 + 5).toNatClampNeg)))), (n_base, .inl (E.2.1 0, 3, .inl zbase)), (n_bound, .inl (E.2.1 0, 3, .inl zbound)), (n_ranOut, .inl (E.2.1 3, 3, .inl zranOut))]) rfl ?_
  clear hP hD hS
  intro H locs hP hD hS
  refine lv_aload_n J.1 J.2.1 d_MD_trap_138 rfl (lv_at hl 0 rfl) ?_
  refine jg J hJ hP 0 rfl rfl i_MD 9 (by decide) gf_MD_44 rfl d_MD_trap_139 ?_
  refine lv_aload_n J.1 J.2.1 d_MD_trap_142 rfl (lv_at hl 0 rfl) ?_
  refine jg J hJ hP 0 rfl rfl i_MD 38 (by decide) gf_MD_261 rfl d_MD_trap_143 ?_
  refine lv_aload_n J.1 J.2.1 d_MD_trap_146 rfl (lv_at hl 0 rfl) ?_
  refine jg J hJ hP 0 rfl rfl i_MD 5 (by decide) gf_MD_32 rfl d_MD_trap_147 ?_
  refine lv_iload J.1 J.2.1 d_MD_trap_150 (lv_at hl 2 rfl) ?_
  refine lv_bipush (v := 6) J.1 J.2.1 d_MD_trap_152 (by decide) ?_
  refine lv_iadd J.1 J.2.1 d_MD_trap_154 ?_
  replace h := g_ck h
  obtain ⟨k_3, h⟩ := h
  refine jai J hJ hP 1 rfl k_3 d_MD_trap_155 ?_
  replace h := g_ck h
  obtain ⟨k_4, h⟩ := h
  refine jsi J hJ hP hD hS 4 rfl k_4 d_MD_trap_156 (WS' := [(n0, .inr (6, [.ref n_tape, .int ztaped, .ref n_isThere, .ref n_size, .ref n_depth, .ref n_memory, .ref n_register, .ref n_mode, .ref n_pc, .ref n_base, .ref n_bound, .ref n_timer, .ref n_ranOut, .ref n_halted, .ref n_steps, .ref n_outs, .ref n_output, .ref n_waits, .ref n_typed, .ref n_disk, .ref n_wants, .int zat, .int zend, .int zline, .ref n_labelFrom, .ref n_labelSize, .ref n_labelAddress, .int zlabels, .int zfault, .int zfaultLine, .int zisTold, .int zaddress, .ref n_made, .int zmissing, .int zgood, .int zvalue, .int zvalueFrom, .int zvalueSize, .int zme])), (n_memory, .inl (E.2.1 0, 3072, .inl zmemory)), (n_mode, .inl (E.2.1 0, 3, .inl zmode)), (n_pc, .inl (E.2.1 0, 3, .inl (upd zpc zme.toNatClampNeg (zmemory (x4 + 5).toNatClampNeg)))), (n_base, .inl (E.2.1 0, 3, .inl (upd zbase zme.toNatClampNeg (zmemory (x4 + 6).toNatClampNeg)))), (n_bound, .inl (E.2.1 0, 3, .inl zbound)), (n_ranOut, .inl (E.2.1 3, 3, .inl zranOut))]) rfl ?_
  clear hP hD hS
  intro H locs hP hD hS
  refine lv_aload_n J.1 J.2.1 d_MD_trap_157 rfl (lv_at hl 0 rfl) ?_
  refine jg J hJ hP 0 rfl rfl i_MD 10 (by decide) gf_MD_47 rfl d_MD_trap_158 ?_
  refine lv_aload_n J.1 J.2.1 d_MD_trap_161 rfl (lv_at hl 0 rfl) ?_
  refine jg J hJ hP 0 rfl rfl i_MD 38 (by decide) gf_MD_261 rfl d_MD_trap_162 ?_
  refine lv_aload_n J.1 J.2.1 d_MD_trap_165 rfl (lv_at hl 0 rfl) ?_
  refine jg J hJ hP 0 rfl rfl i_MD 5 (by decide) gf_MD_32 rfl d_MD_trap_166 ?_
  refine lv_iload J.1 J.2.1 d_MD_trap_169 (lv_at hl 2 rfl) ?_
  refine lv_bipush (v := 7) J.1 J.2.1 d_MD_trap_171 (by decide) ?_
  refine lv_iadd J.1 J.2.1 d_MD_trap_173 ?_
  replace h := g_ck h
  obtain ⟨k_5, h⟩ := h
  refine jai J hJ hP 1 rfl k_5 d_MD_trap_174 ?_
  replace h := g_ck h
  obtain ⟨k_6, h⟩ := h
  refine jsi J hJ hP hD hS 5 rfl k_6 d_MD_trap_175 (WS' := [(n0, .inr (6, [.ref n_tape, .int ztaped, .ref n_isThere, .ref n_size, .ref n_depth, .ref n_memory, .ref n_register, .ref n_mode, .ref n_pc, .ref n_base, .ref n_bound, .ref n_timer, .ref n_ranOut, .ref n_halted, .ref n_steps, .ref n_outs, .ref n_output, .ref n_waits, .ref n_typed, .ref n_disk, .ref n_wants, .int zat, .int zend, .int zline, .ref n_labelFrom, .ref n_labelSize, .ref n_labelAddress, .int zlabels, .int zfault, .int zfaultLine, .int zisTold, .int zaddress, .ref n_made, .int zmissing, .int zgood, .int zvalue, .int zvalueFrom, .int zvalueSize, .int zme])), (n_memory, .inl (E.2.1 0, 3072, .inl zmemory)), (n_mode, .inl (E.2.1 0, 3, .inl zmode)), (n_pc, .inl (E.2.1 0, 3, .inl (upd zpc zme.toNatClampNeg (zmemory (x4 + 5).toNatClampNeg)))), (n_base, .inl (E.2.1 0, 3, .inl (upd zbase zme.toNatClampNeg (zmemory (x4 + 6).toNatClampNeg)))), (n_bound, .inl (E.2.1 0, 3, .inl (upd zbound zme.toNatClampNeg (zmemory (x4 + 7).toNatClampNeg)))), (n_ranOut, .inl (E.2.1 3, 3, .inl zranOut))]) rfl ?_
  clear hP hD hS
  intro H locs hP hD hS
  refine lv_iload_n J.1 J.2.1 d_MD_trap_176 rfl (lv_at hl 1 rfl) ?_
  refine lv_iconst (v := 4) J.1 J.2.1 d_MD_trap_177 (by decide) ?_
  refine lv_icmp_ne (tgt := 191) J.1 J.2.1 d_MD_trap_178 (by decide) (fun c_7 => ?_) (fun c_7 => ?_)
  · replace h := g_f c_7 h
    have h := Option.some.inj h
    have e_0 := (Prod.mk.inj h).1
    have h := (Prod.mk.inj h).2
    have e_1 := (Prod.mk.inj h).1
    have h := (Prod.mk.inj h).2
    have e_2 := (Prod.mk.inj h).1
    have h := (Prod.mk.inj h).2
    have e_3 := (Prod.mk.inj h).1
    have h := (Prod.mk.inj h).2
    have e_4 := (Prod.mk.inj h).1
    have h := (Prod.mk.inj h).2
    rw [← e_0, ← e_1, ← e_2, ← e_3, ← e_4, ← h]
    exact jr_v J hS hP hD d_MD_trap_191
  · replace h := g_t c_7 h
    refine lv_aload_n J.1 J.2.1 d_MD_trap_181 rfl (lv_at hl 0 rfl) ?_
    refine jg J hJ hP 0 rfl rfl i_MD 12 (by decide) gf_MD_53 rfl d_MD_trap_182 ?_
    refine lv_aload_n J.1 J.2.1 d_MD_trap_185 rfl (lv_at hl 0 rfl) ?_
    refine jg J hJ hP 0 rfl rfl i_MD 38 (by decide) gf_MD_261 rfl d_MD_trap_186 ?_
    refine lv_iconst (v := 0) J.1 J.2.1 d_MD_trap_189 (by decide) ?_
    replace h := g_ck h
    obtain ⟨k_8, h⟩ := h
    refine va_zast J.1 J.2.1 hJ.1 hP hD hS 6 3 rfl rfl k_8 d_MD_trap_190 ?_
    clear hP hD hS
    intro H locs hP hD hS
    have hP : va_P E.1 classes [(n0, .inr (6, [.ref n_tape, .int ztaped, .ref n_isThere, .ref n_size, .ref n_depth, .ref n_memory, .ref n_register, .ref n_mode, .ref n_pc, .ref n_base, .ref n_bound, .ref n_timer, .ref n_ranOut, .ref n_halted, .ref n_steps, .ref n_outs, .ref n_output, .ref n_waits, .ref n_typed, .ref n_disk, .ref n_wants, .int zat, .int zend, .int zline, .ref n_labelFrom, .ref n_labelSize, .ref n_labelAddress, .int zlabels, .int zfault, .int zfaultLine, .int zisTold, .int zaddress, .ref n_made, .int zmissing, .int zgood, .int zvalue, .int zvalueFrom, .int zvalueSize, .int zme])), (n_memory, .inl (E.2.1 0, 3072, .inl zmemory)), (n_mode, .inl (E.2.1 0, 3, .inl zmode)), (n_pc, .inl (E.2.1 0, 3, .inl (upd zpc zme.toNatClampNeg (zmemory (x4 + 5).toNatClampNeg)))), (n_base, .inl (E.2.1 0, 3, .inl (upd zbase zme.toNatClampNeg (zmemory (x4 + 6).toNatClampNeg)))), (n_bound, .inl (E.2.1 0, 3, .inl (upd zbound zme.toNatClampNeg (zmemory (x4 + 7).toNatClampNeg)))), (n_ranOut, .inl (E.2.1 3, 3, .inl (upd zranOut zme.toNatClampNeg (vp_nar .boolean 0))))] H := hP
    have hD : va_D A [(n0, .inr (6, [.ref n_tape, .int ztaped, .ref n_isThere, .ref n_size, .ref n_depth, .ref n_memory, .ref n_register, .ref n_mode, .ref n_pc, .ref n_base, .ref n_bound, .ref n_timer, .ref n_ranOut, .ref n_halted, .ref n_steps, .ref n_outs, .ref n_output, .ref n_waits, .ref n_typed, .ref n_disk, .ref n_wants, .int zat, .int zend, .int zline, .ref n_labelFrom, .ref n_labelSize, .ref n_labelAddress, .int zlabels, .int zfault, .int zfaultLine, .int zisTold, .int zaddress, .ref n_made, .int zmissing, .int zgood, .int zvalue, .int zvalueFrom, .int zvalueSize, .int zme])), (n_memory, .inl (E.2.1 0, 3072, .inl zmemory)), (n_mode, .inl (E.2.1 0, 3, .inl zmode)), (n_pc, .inl (E.2.1 0, 3, .inl (upd zpc zme.toNatClampNeg (zmemory (x4 + 5).toNatClampNeg)))), (n_base, .inl (E.2.1 0, 3, .inl (upd zbase zme.toNatClampNeg (zmemory (x4 + 6).toNatClampNeg)))), (n_bound, .inl (E.2.1 0, 3, .inl (upd zbound zme.toNatClampNeg (zmemory (x4 + 7).toNatClampNeg)))), (n_ranOut, .inl (E.2.1 3, 3, .inl (upd zranOut zme.toNatClampNeg (vp_nar .boolean 0))))] := hD
    have h := Option.some.inj h
    have e_0 := (Prod.mk.inj h).1
    have h := (Prod.mk.inj h).2
    have e_1 := (Prod.mk.inj h).1
    have h := (Prod.mk.inj h).2
    have e_2 := (Prod.mk.inj h).1
    have h := (Prod.mk.inj h).2
    have e_3 := (Prod.mk.inj h).1
    have h := (Prod.mk.inj h).2
    have e_4 := (Prod.mk.inj h).1
    have h := (Prod.mk.inj h).2
    rw [← e_0, ← e_1, ← e_2, ← e_3, ← e_4, ← h]
    exact jr_v J hS hP hD d_MD_trap_191
set_option maxHeartbeats 4000000 in
set_option maxRecDepth 100000 in
theorem ct_MD_trap (l : Launch) (E : jz_E) (n0 n_base n_bound n_depth n_disk n_halted n_isThere n_labelAddress n_labelFrom n_labelSize n_made n_memory n_mode n_output n_outs n_pc n_ranOut n_register n_size n_steps n_tape n_timer n_typed n_waits n_wants : Nat) (sz : Nat) (ztaped : Int32) (zat : Int32) (zend : Int32) (zline : Int32) (zlabels : Int32) (zfault : Int32) (zfaultLine : Int32) (zisTold : Int32) (zaddress : Int32) (zmissing : Int32) (zgood : Int32) (zvalue : Int32) (zvalueFrom : Int32) (zvalueSize : Int32) (zme : Int32) (zmemory : Nat → Int32) (zmode : Nat → Int32) (zpc : Nat → Int32) (zbase : Nat → Int32) (zbound : Nat → Int32) (zranOut : Nat → Int32) (p1 : Int32) (p2 : Int32) (p3 : Int32) (o_zmemory : Nat → Int32) (o_zmode : Nat → Int32) (o_zpc : Nat → Int32) (o_zbase : Nat → Int32) (o_zbound : Nat → Int32) (o_zranOut : Nat → Int32)  (h : f_MD_trap zme zmemory zmode zpc zbase zbound zranOut p1 p2 p3 = some (o_zmemory, o_zmode, o_zpc, o_zbase, o_zbound, o_zranOut)) : CTv l E y_MD_trap c_MD_trap 5 none ({ frames := 0, cells := 0, slots := 0, locals := 0 }) [.ref n0, .int p1, .int p2, .int p3] [(n0, .inr (6, [.ref n_tape, .int ztaped, .ref n_isThere, .ref n_size, .ref n_depth, .ref n_memory, .ref n_register, .ref n_mode, .ref n_pc, .ref n_base, .ref n_bound, .ref n_timer, .ref n_ranOut, .ref n_halted, .ref n_steps, .ref n_outs, .ref n_output, .ref n_waits, .ref n_typed, .ref n_disk, .ref n_wants, .int zat, .int zend, .int zline, .ref n_labelFrom, .ref n_labelSize, .ref n_labelAddress, .int zlabels, .int zfault, .int zfaultLine, .int zisTold, .int zaddress, .ref n_made, .int zmissing, .int zgood, .int zvalue, .int zvalueFrom, .int zvalueSize, .int zme])), (n_memory, .inl (E.2.1 0, 3072, .inl zmemory)), (n_mode, .inl (E.2.1 0, 3, .inl zmode)), (n_pc, .inl (E.2.1 0, 3, .inl zpc)), (n_base, .inl (E.2.1 0, 3, .inl zbase)), (n_bound, .inl (E.2.1 0, 3, .inl zbound)), (n_ranOut, .inl (E.2.1 3, 3, .inl zranOut))] sz [(n0, .inr (6, [.ref n_tape, .int ztaped, .ref n_isThere, .ref n_size, .ref n_depth, .ref n_memory, .ref n_register, .ref n_mode, .ref n_pc, .ref n_base, .ref n_bound, .ref n_timer, .ref n_ranOut, .ref n_halted, .ref n_steps, .ref n_outs, .ref n_output, .ref n_waits, .ref n_typed, .ref n_disk, .ref n_wants, .int zat, .int zend, .int zline, .ref n_labelFrom, .ref n_labelSize, .ref n_labelAddress, .int zlabels, .int zfault, .int zfaultLine, .int zisTold, .int zaddress, .ref n_made, .int zmissing, .int zgood, .int zvalue, .int zvalueFrom, .int zvalueSize, .int zme])), (n_memory, .inl (E.2.1 0, 3072, .inl o_zmemory)), (n_mode, .inl (E.2.1 0, 3, .inl o_zmode)), (n_pc, .inl (E.2.1 0, 3, .inl o_zpc)), (n_base, .inl (E.2.1 0, 3, .inl o_zbase)), (n_bound, .inl (E.2.1 0, 3, .inl o_zbound)), (n_ranOut, .inl (E.2.1 3, 3, .inl o_zranOut))] := by
  refine jw (by decide +kernel) (Nat.le_of_ble_eq_true rfl) ?_
  intro p e s m below meth c A ls J hJ hAe hsz hA hZ hP hD hl
  rw [← hAe]
  have hS : va_S A s.heap s.heap [] := va_S.rf
  have hl : lv_has ls 5 [(0, .ref n0), (1, .int p1), (2, .int p2), (3, .int p3)] := hl
  unfold f_MD_trap at h
  refine lv_sipush (v := 1024) J.1 J.2.1 d_MD_trap_0 (by decide) ?_
  refine lv_aload_n J.1 J.2.1 d_MD_trap_3 rfl (lv_at hl 0 rfl) ?_
  refine jg J hJ hP 0 rfl rfl i_MD 38 (by decide) gf_MD_261 rfl d_MD_trap_4 ?_
  refine lv_imul J.1 J.2.1 d_MD_trap_7 ?_
  refine lv_istore (lv' := [(4, .int (1024 * zme)), (0, .ref n0), (1, .int p1), (2, .int p2), (3, .int p3)]) J.1 J.2.1 d_MD_trap_8 hl (by decide) rfl ?_
  clear hl
  intro ls hl
  refine lv_aload_n J.1 J.2.1 d_MD_trap_10 rfl (lv_at hl 1 rfl) ?_
  refine jg J hJ hP 0 rfl rfl i_MD 5 (by decide) gf_MD_32 rfl d_MD_trap_11 ?_
  refine lv_iload J.1 J.2.1 d_MD_trap_14 (lv_at hl 0 rfl) ?_
  refine lv_aload_n J.1 J.2.1 d_MD_trap_16 rfl (lv_at hl 1 rfl) ?_
  refine jg J hJ hP 0 rfl rfl i_MD 7 (by decide) gf_MD_38 rfl d_MD_trap_17 ?_
  refine lv_aload_n J.1 J.2.1 d_MD_trap_20 rfl (lv_at hl 1 rfl) ?_
  refine jg J hJ hP 0 rfl rfl i_MD 38 (by decide) gf_MD_261 rfl d_MD_trap_21 ?_
  replace h := g_ck h
  obtain ⟨k_9, h⟩ := h
  refine jai J hJ hP 2 rfl k_9 d_MD_trap_24 ?_
  replace h := g_ck h
  obtain ⟨k_10, h⟩ := h
  refine jsi J hJ hP hD hS 1 rfl k_10 d_MD_trap_25 (WS' := [(n0, .inr (6, [.ref n_tape, .int ztaped, .ref n_isThere, .ref n_size, .ref n_depth, .ref n_memory, .ref n_register, .ref n_mode, .ref n_pc, .ref n_base, .ref n_bound, .ref n_timer, .ref n_ranOut, .ref n_halted, .ref n_steps, .ref n_outs, .ref n_output, .ref n_waits, .ref n_typed, .ref n_disk, .ref n_wants, .int zat, .int zend, .int zline, .ref n_labelFrom, .ref n_labelSize, .ref n_labelAddress, .int zlabels, .int zfault, .int zfaultLine, .int zisTold, .int zaddress, .ref n_made, .int zmissing, .int zgood, .int zvalue, .int zvalueFrom, .int zvalueSize, .int zme])), (n_memory, .inl (E.2.1 0, 3072, .inl (upd zmemory (1024 * zme).toNatClampNeg (zmode zme.toNatClampNeg)))), (n_mode, .inl (E.2.1 0, 3, .inl zmode)), (n_pc, .inl (E.2.1 0, 3, .inl zpc)), (n_base, .inl (E.2.1 0, 3, .inl zbase)), (n_bound, .inl (E.2.1 0, 3, .inl zbound)), (n_ranOut, .inl (E.2.1 3, 3, .inl zranOut))]) rfl ?_
  clear hP hD hS
  intro H locs hP hD hS
  refine lv_aload_n J.1 J.2.1 d_MD_trap_26 rfl (lv_at hl 1 rfl) ?_
  refine jg J hJ hP 0 rfl rfl i_MD 5 (by decide) gf_MD_32 rfl d_MD_trap_27 ?_
  refine lv_iload J.1 J.2.1 d_MD_trap_30 (lv_at hl 0 rfl) ?_
  refine lv_iconst (v := 1) J.1 J.2.1 d_MD_trap_32 (by decide) ?_
  refine lv_iadd J.1 J.2.1 d_MD_trap_33 ?_
  refine lv_iload_n J.1 J.2.1 d_MD_trap_34 rfl (lv_at hl 4 rfl) ?_
  replace h := g_ck h
  obtain ⟨k_11, h⟩ := h
  refine jsi J hJ hP hD hS 1 rfl k_11 d_MD_trap_35 (WS' := [(n0, .inr (6, [.ref n_tape, .int ztaped, .ref n_isThere, .ref n_size, .ref n_depth, .ref n_memory, .ref n_register, .ref n_mode, .ref n_pc, .ref n_base, .ref n_bound, .ref n_timer, .ref n_ranOut, .ref n_halted, .ref n_steps, .ref n_outs, .ref n_output, .ref n_waits, .ref n_typed, .ref n_disk, .ref n_wants, .int zat, .int zend, .int zline, .ref n_labelFrom, .ref n_labelSize, .ref n_labelAddress, .int zlabels, .int zfault, .int zfaultLine, .int zisTold, .int zaddress, .ref n_made, .int zmissing, .int zgood, .int zvalue, .int zvalueFrom, .int zvalueSize, .int zme])), (n_memory, .inl (E.2.1 0, 3072, .inl (upd (upd zmemory (1024 * zme).toNatClampNeg (zmode zme.toNatClampNeg)) ((1024 * zme) + 1).toNatClampNeg p3))), (n_mode, .inl (E.2.1 0, 3, .inl zmode)), (n_pc, .inl (E.2.1 0, 3, .inl zpc)), (n_base, .inl (E.2.1 0, 3, .inl zbase)), (n_bound, .inl (E.2.1 0, 3, .inl zbound)), (n_ranOut, .inl (E.2.1 3, 3, .inl zranOut))]) rfl ?_
  clear hP hD hS
  intro H locs hP hD hS
  refine lv_aload_n J.1 J.2.1 d_MD_trap_36 rfl (lv_at hl 1 rfl) ?_
  refine jg J hJ hP 0 rfl rfl i_MD 5 (by decide) gf_MD_32 rfl d_MD_trap_37 ?_
  refine lv_iload J.1 J.2.1 d_MD_trap_40 (lv_at hl 0 rfl) ?_
  refine lv_iconst (v := 2) J.1 J.2.1 d_MD_trap_42 (by decide) ?_
  refine lv_iadd J.1 J.2.1 d_MD_trap_43 ?_
  refine lv_aload_n J.1 J.2.1 d_MD_trap_44 rfl (lv_at hl 1 rfl) ?_
  refine jg J hJ hP 0 rfl rfl i_MD 9 (by decide) gf_MD_44 rfl d_MD_trap_45 ?_
  refine lv_aload_n J.1 J.2.1 d_MD_trap_48 rfl (lv_at hl 1 rfl) ?_
  refine jg J hJ hP 0 rfl rfl i_MD 38 (by decide) gf_MD_261 rfl d_MD_trap_49 ?_
  replace h := g_ck h
  obtain ⟨k_12, h⟩ := h
  refine jai J hJ hP 4 rfl k_12 d_MD_trap_52 ?_
  replace h := g_ck h
  obtain ⟨k_13, h⟩ := h
  refine jsi J hJ hP hD hS 1 rfl k_13 d_MD_trap_53 (WS' := [(n0, .inr (6, [.ref n_tape, .int ztaped, .ref n_isThere, .ref n_size, .ref n_depth, .ref n_memory, .ref n_register, .ref n_mode, .ref n_pc, .ref n_base, .ref n_bound, .ref n_timer, .ref n_ranOut, .ref n_halted, .ref n_steps, .ref n_outs, .ref n_output, .ref n_waits, .ref n_typed, .ref n_disk, .ref n_wants, .int zat, .int zend, .int zline, .ref n_labelFrom, .ref n_labelSize, .ref n_labelAddress, .int zlabels, .int zfault, .int zfaultLine, .int zisTold, .int zaddress, .ref n_made, .int zmissing, .int zgood, .int zvalue, .int zvalueFrom, .int zvalueSize, .int zme])), (n_memory, .inl (E.2.1 0, 3072, .inl (upd (upd (upd zmemory (1024 * zme).toNatClampNeg (zmode zme.toNatClampNeg)) ((1024 * zme) + 1).toNatClampNeg p3) ((1024 * zme) + 2).toNatClampNeg (zbase zme.toNatClampNeg)))), (n_mode, .inl (E.2.1 0, 3, .inl zmode)), (n_pc, .inl (E.2.1 0, 3, .inl zpc)), (n_base, .inl (E.2.1 0, 3, .inl zbase)), (n_bound, .inl (E.2.1 0, 3, .inl zbound)), (n_ranOut, .inl (E.2.1 3, 3, .inl zranOut))]) rfl ?_
  clear hP hD hS
  intro H locs hP hD hS
  refine lv_aload_n J.1 J.2.1 d_MD_trap_54 rfl (lv_at hl 1 rfl) ?_
  refine jg J hJ hP 0 rfl rfl i_MD 5 (by decide) gf_MD_32 rfl d_MD_trap_55 ?_
  refine lv_iload J.1 J.2.1 d_MD_trap_58 (lv_at hl 0 rfl) ?_
  refine lv_iconst (v := 3) J.1 J.2.1 d_MD_trap_60 (by decide) ?_
  refine lv_iadd J.1 J.2.1 d_MD_trap_61 ?_
  refine lv_aload_n J.1 J.2.1 d_MD_trap_62 rfl (lv_at hl 1 rfl) ?_
  refine jg J hJ hP 0 rfl rfl i_MD 10 (by decide) gf_MD_47 rfl d_MD_trap_63 ?_
  refine lv_aload_n J.1 J.2.1 d_MD_trap_66 rfl (lv_at hl 1 rfl) ?_
  refine jg J hJ hP 0 rfl rfl i_MD 38 (by decide) gf_MD_261 rfl d_MD_trap_67 ?_
  replace h := g_ck h
  obtain ⟨k_14, h⟩ := h
  refine jai J hJ hP 5 rfl k_14 d_MD_trap_70 ?_
  replace h := g_ck h
  obtain ⟨k_15, h⟩ := h
  refine jsi J hJ hP hD hS 1 rfl k_15 d_MD_trap_71 (WS' := [(n0, .inr (6, [.ref n_tape, .int ztaped, .ref n_isThere, .ref n_size, .ref n_depth, .ref n_memory, .ref n_register, .ref n_mode, .ref n_pc, .ref n_base, .ref n_bound, .ref n_timer, .ref n_ranOut, .ref n_halted, .ref n_steps, .ref n_outs, .ref n_output, .ref n_waits, .ref n_typed, .ref n_disk, .ref n_wants, .int zat, .int zend, .int zline, .ref n_labelFrom, .ref n_labelSize, .ref n_labelAddress, .int zlabels, .int zfault, .int zfaultLine, .int zisTold, .int zaddress, .ref n_made, .int zmissing, .int zgood, .int zvalue, .int zvalueFrom, .int zvalueSize, .int zme])), (n_memory, .inl (E.2.1 0, 3072, .inl (upd (upd (upd (upd zmemory (1024 * zme).toNatClampNeg (zmode zme.toNatClampNeg)) ((1024 * zme) + 1).toNatClampNeg p3) ((1024 * zme) + 2).toNatClampNeg (zbase zme.toNatClampNeg)) ((1024 * zme) + 3).toNatClampNeg (zbound zme.toNatClampNeg)))), (n_mode, .inl (E.2.1 0, 3, .inl zmode)), (n_pc, .inl (E.2.1 0, 3, .inl zpc)), (n_base, .inl (E.2.1 0, 3, .inl zbase)), (n_bound, .inl (E.2.1 0, 3, .inl zbound)), (n_ranOut, .inl (E.2.1 3, 3, .inl zranOut))]) rfl ?_
  clear hP hD hS
  intro H locs hP hD hS
  refine lv_aload_n J.1 J.2.1 d_MD_trap_72 rfl (lv_at hl 1 rfl) ?_
  refine jg J hJ hP 0 rfl rfl i_MD 5 (by decide) gf_MD_32 rfl d_MD_trap_73 ?_
  refine lv_iload J.1 J.2.1 d_MD_trap_76 (lv_at hl 0 rfl) ?_
  refine lv_bipush (v := 8) J.1 J.2.1 d_MD_trap_78 (by decide) ?_
  refine lv_iadd J.1 J.2.1 d_MD_trap_80 ?_
  refine lv_iload_n J.1 J.2.1 d_MD_trap_81 rfl (lv_at hl 2 rfl) ?_
  replace h := g_ck h
  obtain ⟨k_16, h⟩ := h
  refine jsi J hJ hP hD hS 1 rfl k_16 d_MD_trap_82 (WS' := [(n0, .inr (6, [.ref n_tape, .int ztaped, .ref n_isThere, .ref n_size, .ref n_depth, .ref n_memory, .ref n_register, .ref n_mode, .ref n_pc, .ref n_base, .ref n_bound, .ref n_timer, .ref n_ranOut, .ref n_halted, .ref n_steps, .ref n_outs, .ref n_output, .ref n_waits, .ref n_typed, .ref n_disk, .ref n_wants, .int zat, .int zend, .int zline, .ref n_labelFrom, .ref n_labelSize, .ref n_labelAddress, .int zlabels, .int zfault, .int zfaultLine, .int zisTold, .int zaddress, .ref n_made, .int zmissing, .int zgood, .int zvalue, .int zvalueFrom, .int zvalueSize, .int zme])), (n_memory, .inl (E.2.1 0, 3072, .inl (upd (upd (upd (upd (upd zmemory (1024 * zme).toNatClampNeg (zmode zme.toNatClampNeg)) ((1024 * zme) + 1).toNatClampNeg p3) ((1024 * zme) + 2).toNatClampNeg (zbase zme.toNatClampNeg)) ((1024 * zme) + 3).toNatClampNeg (zbound zme.toNatClampNeg)) ((1024 * zme) + 8).toNatClampNeg p1))), (n_mode, .inl (E.2.1 0, 3, .inl zmode)), (n_pc, .inl (E.2.1 0, 3, .inl zpc)), (n_base, .inl (E.2.1 0, 3, .inl zbase)), (n_bound, .inl (E.2.1 0, 3, .inl zbound)), (n_ranOut, .inl (E.2.1 3, 3, .inl zranOut))]) rfl ?_
  clear hP hD hS
  intro H locs hP hD hS
  refine lv_aload_n J.1 J.2.1 d_MD_trap_83 rfl (lv_at hl 1 rfl) ?_
  refine jg J hJ hP 0 rfl rfl i_MD 5 (by decide) gf_MD_32 rfl d_MD_trap_84 ?_
  refine lv_iload J.1 J.2.1 d_MD_trap_87 (lv_at hl 0 rfl) ?_
  refine lv_bipush (v := 9) J.1 J.2.1 d_MD_trap_89 (by decide) ?_
  refine lv_iadd J.1 J.2.1 d_MD_trap_91 ?_
  refine lv_iload_n J.1 J.2.1 d_MD_trap_92 rfl (lv_at hl 3 rfl) ?_
  replace h := g_ck h
  obtain ⟨k_17, h⟩ := h
  refine jsi J hJ hP hD hS 1 rfl k_17 d_MD_trap_93 (WS' := [(n0, .inr (6, [.ref n_tape, .int ztaped, .ref n_isThere, .ref n_size, .ref n_depth, .ref n_memory, .ref n_register, .ref n_mode, .ref n_pc, .ref n_base, .ref n_bound, .ref n_timer, .ref n_ranOut, .ref n_halted, .ref n_steps, .ref n_outs, .ref n_output, .ref n_waits, .ref n_typed, .ref n_disk, .ref n_wants, .int zat, .int zend, .int zline, .ref n_labelFrom, .ref n_labelSize, .ref n_labelAddress, .int zlabels, .int zfault, .int zfaultLine, .int zisTold, .int zaddress, .ref n_made, .int zmissing, .int zgood, .int zvalue, .int zvalueFrom, .int zvalueSize, .int zme])), (n_memory, .inl (E.2.1 0, 3072, .inl (upd (upd (upd (upd (upd (upd zmemory (1024 * zme).toNatClampNeg (zmode zme.toNatClampNeg)) ((1024 * zme) + 1).toNatClampNeg p3) ((1024 * zme) + 2).toNatClampNeg (zbase zme.toNatClampNeg)) ((1024 * zme) + 3).toNatClampNeg (zbound zme.toNatClampNeg)) ((1024 * zme) + 8).toNatClampNeg p1) ((1024 * zme) + 9).toNatClampNeg p2))), (n_mode, .inl (E.2.1 0, 3, .inl zmode)), (n_pc, .inl (E.2.1 0, 3, .inl zpc)), (n_base, .inl (E.2.1 0, 3, .inl zbase)), (n_bound, .inl (E.2.1 0, 3, .inl zbound)), (n_ranOut, .inl (E.2.1 3, 3, .inl zranOut))]) rfl ?_
  clear hP hD hS
  intro H locs hP hD hS
  refine lv_aload_n J.1 J.2.1 d_MD_trap_94 rfl (lv_at hl 1 rfl) ?_
  refine jg J hJ hP 0 rfl rfl i_MD 7 (by decide) gf_MD_38 rfl d_MD_trap_95 ?_
  refine lv_aload_n J.1 J.2.1 d_MD_trap_98 rfl (lv_at hl 1 rfl) ?_
  refine jg J hJ hP 0 rfl rfl i_MD 38 (by decide) gf_MD_261 rfl d_MD_trap_99 ?_
  refine lv_aload_n J.1 J.2.1 d_MD_trap_102 rfl (lv_at hl 1 rfl) ?_
  refine jg J hJ hP 0 rfl rfl i_MD 5 (by decide) gf_MD_32 rfl d_MD_trap_103 ?_
  refine lv_iload J.1 J.2.1 d_MD_trap_106 (lv_at hl 0 rfl) ?_
  refine lv_iconst (v := 4) J.1 J.2.1 d_MD_trap_108 (by decide) ?_
  refine lv_iadd J.1 J.2.1 d_MD_trap_109 ?_
  replace h := g_ck h
  obtain ⟨k_18, h⟩ := h
  refine jai J hJ hP 1 rfl k_18 d_MD_trap_110 ?_
  refine lv_if_ne (tgt := 118) J.1 J.2.1 d_MD_trap_111 (by decide) (fun c_19 => ?_) (fun c_19 => ?_)
  · replace h := g_f c_19 h
    refine lv_iconst (v := 1) J.1 J.2.1 d_MD_trap_118 (by decide) ?_
    replace h := g_ck h
    obtain ⟨k_20, h⟩ := h
    refine jsi J hJ hP hD hS 2 rfl k_20 d_MD_trap_119 (WS' := [(n0, .inr (6, [.ref n_tape, .int ztaped, .ref n_isThere, .ref n_size, .ref n_depth, .ref n_memory, .ref n_register, .ref n_mode, .ref n_pc, .ref n_base, .ref n_bound, .ref n_timer, .ref n_ranOut, .ref n_halted, .ref n_steps, .ref n_outs, .ref n_output, .ref n_waits, .ref n_typed, .ref n_disk, .ref n_wants, .int zat, .int zend, .int zline, .ref n_labelFrom, .ref n_labelSize, .ref n_labelAddress, .int zlabels, .int zfault, .int zfaultLine, .int zisTold, .int zaddress, .ref n_made, .int zmissing, .int zgood, .int zvalue, .int zvalueFrom, .int zvalueSize, .int zme])), (n_memory, .inl (E.2.1 0, 3072, .inl (upd (upd (upd (upd (upd (upd zmemory (1024 * zme).toNatClampNeg (zmode zme.toNatClampNeg)) ((1024 * zme) + 1).toNatClampNeg p3) ((1024 * zme) + 2).toNatClampNeg (zbase zme.toNatClampNeg)) ((1024 * zme) + 3).toNatClampNeg (zbound zme.toNatClampNeg)) ((1024 * zme) + 8).toNatClampNeg p1) ((1024 * zme) + 9).toNatClampNeg p2))), (n_mode, .inl (E.2.1 0, 3, .inl (upd zmode zme.toNatClampNeg 1))), (n_pc, .inl (E.2.1 0, 3, .inl zpc)), (n_base, .inl (E.2.1 0, 3, .inl zbase)), (n_bound, .inl (E.2.1 0, 3, .inl zbound)), (n_ranOut, .inl (E.2.1 3, 3, .inl zranOut))]) rfl ?_
    clear hP hD hS
    intro H locs hP hD hS
    exact kb_MD_trap_120 J hJ hA hZ _ _ _ _ _ _ _ _ _ _ _ _ _ _ _ _ _ _ _ _ _ _ _ _ _ _ h hP hD hS (lv_sub hl [1, 2, 0] rfl)
  · replace h := g_t c_19 h
    refine lv_iconst (v := 0) J.1 J.2.1 d_MD_trap_114 (by decide) ?_
    refine lv_goto (tgt := 119) J.1 J.2.1 d_MD_trap_115 (by decide) ?_
    replace h := g_ck h
    obtain ⟨k_21, h⟩ := h
    refine jsi J hJ hP hD hS 2 rfl k_21 d_MD_trap_119 (WS' := [(n0, .inr (6, [.ref n_tape, .int ztaped, .ref n_isThere, .ref n_size, .ref n_depth, .ref n_memory, .ref n_register, .ref n_mode, .ref n_pc, .ref n_base, .ref n_bound, .ref n_timer, .ref n_ranOut, .ref n_halted, .ref n_steps, .ref n_outs, .ref n_output, .ref n_waits, .ref n_typed, .ref n_disk, .ref n_wants, .int zat, .int zend, .int zline, .ref n_labelFrom, .ref n_labelSize, .ref n_labelAddress, .int zlabels, .int zfault, .int zfaultLine, .int zisTold, .int zaddress, .ref n_made, .int zmissing, .int zgood, .int zvalue, .int zvalueFrom, .int zvalueSize, .int zme])), (n_memory, .inl (E.2.1 0, 3072, .inl (upd (upd (upd (upd (upd (upd zmemory (1024 * zme).toNatClampNeg (zmode zme.toNatClampNeg)) ((1024 * zme) + 1).toNatClampNeg p3) ((1024 * zme) + 2).toNatClampNeg (zbase zme.toNatClampNeg)) ((1024 * zme) + 3).toNatClampNeg (zbound zme.toNatClampNeg)) ((1024 * zme) + 8).toNatClampNeg p1) ((1024 * zme) + 9).toNatClampNeg p2))), (n_mode, .inl (E.2.1 0, 3, .inl (upd zmode zme.toNatClampNeg 0))), (n_pc, .inl (E.2.1 0, 3, .inl zpc)), (n_base, .inl (E.2.1 0, 3, .inl zbase)), (n_bound, .inl (E.2.1 0, 3, .inl zbound)), (n_ranOut, .inl (E.2.1 3, 3, .inl zranOut))]) rfl ?_
    clear hP hD hS
    intro H locs hP hD hS
    exact kb_MD_trap_120 J hJ hA hZ _ _ _ _ _ _ _ _ _ _ _ _ _ _ _ _ _ _ _ _ _ _ _ _ _ _ h hP hD hS (lv_sub hl [1, 2, 0] rfl)

theorem hd_MD_bad : y_MD_bad.cls ≠ "java/lang/invoke/MethodHandle" ∧ y_MD_bad.cls ≠ "java/lang/invoke/VarHandle" ∧ (parseMethodDescriptor y_MD_bad.desc).map (fun d => d.parameters.length) = some 2 := by decide +kernel
def b_MD_bad_2 : Nat → Int32 → (Nat → Int32) → (Nat → Int32) → (Nat → Int32) → Int32 → Int32 → Int32 → Option (Int32)
  | 0, _, _, _, _, _, _, _ => none
  | n + 1, zme, zsize, zbase, zbound, x1, x2, x3 => (if x2 ≤ x3 then (some (-1)) else ((f_MD_isGood zme zsize zbase zbound ((x1 + x3) - (x1 + x3) / 65536 * 65536)).bind fun r_2 => (if r_2 = (0 : Int32) then (some ((x1 + x3) - (x1 + x3) / 65536 * 65536)) else b_MD_bad_2 n zme zsize zbase zbound x1 x2 (x3 + 1))))
def f_MD_bad (zme : Int32) (zsize : Nat → Int32) (zbase : Nat → Int32) (zbound : Nat → Int32) (p1 : Int32) (p2 : Int32) : Option (Int32) := b_MD_bad_2 65536 zme zsize zbase zbound p1 p2 0
set_option maxHeartbeats 4000000 in
set_option maxRecDepth 100000 in
theorem kb_MD_bad_2 {p : Program} {l : Launch} {e : Env} {s : State} {m : MethodId} {below : List Frame} {meth : Method} {c : Code} {A : Nat → Prop} {E : jz_E} {n0 n_base n_bound n_depth n_disk n_halted n_isThere n_labelAddress n_labelFrom n_labelSize n_made n_memory n_mode n_output n_outs n_pc n_ranOut n_register n_size n_steps n_tape n_timer n_typed n_waits n_wants : Nat} {p1 : Int32} {p2 : Int32} {o_r : Int32} (J : JC p s m ([.ref n0, .int p1, .int p2] : List Value).toArray meth c c_MD_bad 4 (some .int) y_MD_bad.cls) (hJ : jE E s) (hA : ∀ q : Nat, s.heap.size ≤ q → A q) (hZ : jz_ok E A s s.heap) : ∀ (n : Nat) (ztaped : Int32) (zat : Int32) (zend : Int32) (zline : Int32) (zlabels : Int32) (zfault : Int32) (zfaultLine : Int32) (zisTold : Int32) (zaddress : Int32) (zmissing : Int32) (zgood : Int32) (zvalue : Int32) (zvalueFrom : Int32) (zvalueSize : Int32) (zme : Int32) (zsize : Nat → Int32) (zbase : Nat → Int32) (zbound : Nat → Int32) (x1 : Int32) (x2 : Int32) (x3 : Int32) (H : Heap) (locs : List Loc) (ls : Array Slot), b_MD_bad_2 n zme zsize zbase zbound x1 x2 x3 = some o_r → va_P E.1 classes [(n0, .inr (6, [.ref n_tape, .int ztaped, .ref n_isThere, .ref n_size, .ref n_depth, .ref n_memory, .ref n_register, .ref n_mode, .ref n_pc, .ref n_base, .ref n_bound, .ref n_timer, .ref n_ranOut, .ref n_halted, .ref n_steps, .ref n_outs, .ref n_output, .ref n_waits, .ref n_typed, .ref n_disk, .ref n_wants, .int zat, .int zend, .int zline, .ref n_labelFrom, .ref n_labelSize, .ref n_labelAddress, .int zlabels, .int zfault, .int zfaultLine, .int zisTold, .int zaddress, .ref n_made, .int zmissing, .int zgood, .int zvalue, .int zvalueFrom, .int zvalueSize, .int zme])), (n_size, .inl (E.2.1 0, 3, .inl zsize)), (n_base, .inl (E.2.1 0, 3, .inl zbase)), (n_bound, .inl (E.2.1 0, 3, .inl zbound))] H → va_D A [(n0, .inr (6, [.ref n_tape, .int ztaped, .ref n_isThere, .ref n_size, .ref n_depth, .ref n_memory, .ref n_register, .ref n_mode, .ref n_pc, .ref n_base, .ref n_bound, .ref n_timer, .ref n_ranOut, .ref n_halted, .ref n_steps, .ref n_outs, .ref n_output, .ref n_waits, .ref n_typed, .ref n_disk, .ref n_wants, .int zat, .int zend, .int zline, .ref n_labelFrom, .ref n_labelSize, .ref n_labelAddress, .int zlabels, .int zfault, .int zfaultLine, .int zisTold, .int zaddress, .ref n_made, .int zmissing, .int zgood, .int zvalue, .int zvalueFrom, .int zvalueSize, .int zme])), (n_size, .inl (E.2.1 0, 3, .inl zsize)), (n_base, .inl (E.2.1 0, 3, .inl zbase)), (n_bound, .inl (E.2.1 0, 3, .inl zbound))] → va_S A s.heap H locs → lv_has ls 4 [(0, .ref n0), (1, .int x1), (2, .int x2), (3, .int x3)] → W p l e ({ frames := 1, cells := 0, slots := 0, locals := 21 }) s m ([.ref n0, .int p1, .int p2] : List Value).toArray below meth c H locs 0 0 (MQ below (va_Qi (fun (r' : Int32) (u : va_W) => r' = o_r ∧ u = [(n0, .inr (6, [.ref n_tape, .int ztaped, .ref n_isThere, .ref n_size, .ref n_depth, .ref n_memory, .ref n_register, .ref n_mode, .ref n_pc, .ref n_base, .ref n_bound, .ref n_timer, .ref n_ranOut, .ref n_halted, .ref n_steps, .ref n_outs, .ref n_output, .ref n_waits, .ref n_typed, .ref n_disk, .ref n_wants, .int zat, .int zend, .int zline, .ref n_labelFrom, .ref n_labelSize, .ref n_labelAddress, .int zlabels, .int zfault, .int zfaultLine, .int zisTold, .int zaddress, .ref n_made, .int zmissing, .int zgood, .int zvalue, .int zvalueFrom, .int zvalueSize, .int zme])), (n_size, .inl (E.2.1 0, 3, .inl zsize)), (n_base, .inl (E.2.1 0, 3, .inl zbase)), (n_bound, .inl (E.2.1 0, 3, .inl zbound))]) (BW E A) A) ([.ref n0, .int p1, .int p2] : List Value).toArray s 0 0 A) (F0 m 2 ls []) := by
  intro n
  induction n with
  | zero => intro ztaped zat zend zline zlabels zfault zfaultLine zisTold zaddress zmissing zgood zvalue zvalueFrom zvalueSize zme zsize zbase zbound x1 x2 x3 H locs ls h; cases h
  | succ n ih =>
    intro ztaped zat zend zline zlabels zfault zfaultLine zisTold zaddress zmissing zgood zvalue zvalueFrom zvalueSize zme zsize zbase zbound x1 x2 x3 H locs ls h hP hD hS hl
    rw [b_MD_bad_2] at h
    refine lv_iload_n J.1 J.2.1 d_MD_bad_2 rfl (lv_at hl 3 rfl) ?_
    refine lv_iload_n J.1 J.2.1 d_MD_bad_3 rfl (lv_at hl 2 rfl) ?_
    refine lv_icmp_ge (tgt := 33) J.1 J.2.1 d_MD_bad_4 (by decide) (fun c_1 => ?_) (fun c_1 => ?_)
    · replace h := g_t c_1 h
      refine lv_iconst (v := (-1)) J.1 J.2.1 d_MD_bad_33 (by decide) ?_
      have h := Option.some.inj h
      rw [← h]
      exact jr_i J hS hP hD rfl d_MD_bad_34
    · replace h := g_f c_1 h
      refine lv_aload_n J.1 J.2.1 d_MD_bad_7 rfl (lv_at hl 0 rfl) ?_
      refine lv_iload_n J.1 J.2.1 d_MD_bad_8 rfl (lv_at hl 1 rfl) ?_
      refine lv_iload_n J.1 J.2.1 d_MD_bad_9 rfl (lv_at hl 3 rfl) ?_
      refine lv_iadd J.1 J.2.1 d_MD_bad_10 ?_
      refine lv_ldc (v := 65536) J.1 J.2.1 J.2.2.2.2.1 (J.2.2.2.2.2.1 _ gk_MD_187) d_MD_bad_11 ?_
      refine lv_irem J.1 J.2.1 d_MD_bad_13 (by decide) ?_
      replace h := g_bd h
      obtain ⟨r_2, q_2, h⟩ := h
      have hq := ct_MD_isGood l E n0 n_base n_bound n_depth n_disk n_halted n_isThere n_labelAddress n_labelFrom n_labelSize n_made n_memory n_mode n_output n_outs n_pc n_ranOut n_register n_size n_steps n_tape n_timer n_typed n_waits n_wants H.size ztaped zat zend zline zlabels zfault zfaultLine zisTold zaddress zmissing zgood zvalue zvalueFrom zvalueSize zme zsize zbase zbound ((x1 + x3) - (x1 + x3) / 65536 * 65536) r_2 q_2
      have hr := jrunV (p := p) (e := e) (below := below) (R := ({ frames := 1, cells := 0, slots := 0, locals := 21 })) (cells := 0) (slots := 0) (As := [.int ((x1 + x3) - (x1 + x3) / 65536 * 65536)]) (rest := []) J hJ hA hZ hP hD hS hq [0, 1, 2, 3] rfl (by decide) gl_MD_264 gi_MD_isGood gsel_MD_isGood gini_MD gc_MD_isGood hd_MD_isGood ⟨rfl, rfl, Nat.le_of_ble_eq_true rfl, Nat.le_of_ble_eq_true rfl⟩ rfl rfl hl.1 rfl rfl (Nat.le_of_ble_eq_true rfl) d_MD_bad_14 ⟨Nat.zero_le _, Nat.zero_le _⟩
      clear hq
      refine jk_i hr hA hP hD hS [0, 1, 2, 3] [] (WR := []) rfl rfl (by decide) (by decide) [0, 1, 2, 3] (WF := [(n0, .inr (6, [.ref n_tape, .int ztaped, .ref n_isThere, .ref n_size, .ref n_depth, .ref n_memory, .ref n_register, .ref n_mode, .ref n_pc, .ref n_base, .ref n_bound, .ref n_timer, .ref n_ranOut, .ref n_halted, .ref n_steps, .ref n_outs, .ref n_output, .ref n_waits, .ref n_typed, .ref n_disk, .ref n_wants, .int zat, .int zend, .int zline, .ref n_labelFrom, .ref n_labelSize, .ref n_labelAddress, .int zlabels, .int zfault, .int zfaultLine, .int zisTold, .int zaddress, .ref n_made, .int zmissing, .int zgood, .int zvalue, .int zvalueFrom, .int zvalueSize, .int zme])), (n_size, .inl (E.2.1 0, 3, .inl zsize)), (n_base, .inl (E.2.1 0, 3, .inl zbase)), (n_bound, .inl (E.2.1 0, 3, .inl zbound))]) rfl (by decide) ?_
      clear hP hD hS
      intro H locs hP hD hS
      clear hr
      refine lv_if_ne (tgt := 27) J.1 J.2.1 d_MD_bad_17 (by decide) (fun c_3 => ?_) (fun c_3 => ?_)
      · replace h := g_f c_3 h
        refine lv_iinc (v := (x3 + 1)) (lv' := [(3, .int (x3 + 1)), (0, .ref n0), (1, .int x1), (2, .int x2)]) J.1 J.2.1 d_MD_bad_27 hl (k := 3) rfl rfl (by decide) rfl ?_
        clear hl
        intro ls hl
        refine lv_goto (tgt := 2) J.1 J.2.1 d_MD_bad_30 (by decide) ?_
        exact ih _ _ _ _ _ _ _ _ _ _ _ _ _ _ _ _ _ _ _ _ _ _ _ _ h hP hD hS (lv_sub hl [1, 2, 3, 0] rfl)
      · replace h := g_t c_3 h
        refine lv_iload_n J.1 J.2.1 d_MD_bad_20 rfl (lv_at hl 1 rfl) ?_
        refine lv_iload_n J.1 J.2.1 d_MD_bad_21 rfl (lv_at hl 3 rfl) ?_
        refine lv_iadd J.1 J.2.1 d_MD_bad_22 ?_
        refine lv_ldc (v := 65536) J.1 J.2.1 J.2.2.2.2.1 (J.2.2.2.2.2.1 _ gk_MD_187) d_MD_bad_23 ?_
        refine lv_irem J.1 J.2.1 d_MD_bad_25 (by decide) ?_
        have h := Option.some.inj h
        rw [← h]
        exact jr_i J hS hP hD rfl d_MD_bad_26
set_option maxHeartbeats 4000000 in
set_option maxRecDepth 100000 in
theorem ct_MD_bad (l : Launch) (E : jz_E) (n0 n_base n_bound n_depth n_disk n_halted n_isThere n_labelAddress n_labelFrom n_labelSize n_made n_memory n_mode n_output n_outs n_pc n_ranOut n_register n_size n_steps n_tape n_timer n_typed n_waits n_wants : Nat) (sz : Nat) (ztaped : Int32) (zat : Int32) (zend : Int32) (zline : Int32) (zlabels : Int32) (zfault : Int32) (zfaultLine : Int32) (zisTold : Int32) (zaddress : Int32) (zmissing : Int32) (zgood : Int32) (zvalue : Int32) (zvalueFrom : Int32) (zvalueSize : Int32) (zme : Int32) (zsize : Nat → Int32) (zbase : Nat → Int32) (zbound : Nat → Int32) (p1 : Int32) (p2 : Int32) (o_r : Int32)  (h : f_MD_bad zme zsize zbase zbound p1 p2 = some o_r) : CTi l E y_MD_bad c_MD_bad 4 (some .int) ({ frames := 1, cells := 0, slots := 0, locals := 21 }) [.ref n0, .int p1, .int p2] [(n0, .inr (6, [.ref n_tape, .int ztaped, .ref n_isThere, .ref n_size, .ref n_depth, .ref n_memory, .ref n_register, .ref n_mode, .ref n_pc, .ref n_base, .ref n_bound, .ref n_timer, .ref n_ranOut, .ref n_halted, .ref n_steps, .ref n_outs, .ref n_output, .ref n_waits, .ref n_typed, .ref n_disk, .ref n_wants, .int zat, .int zend, .int zline, .ref n_labelFrom, .ref n_labelSize, .ref n_labelAddress, .int zlabels, .int zfault, .int zfaultLine, .int zisTold, .int zaddress, .ref n_made, .int zmissing, .int zgood, .int zvalue, .int zvalueFrom, .int zvalueSize, .int zme])), (n_size, .inl (E.2.1 0, 3, .inl zsize)), (n_base, .inl (E.2.1 0, 3, .inl zbase)), (n_bound, .inl (E.2.1 0, 3, .inl zbound))] sz o_r [(n0, .inr (6, [.ref n_tape, .int ztaped, .ref n_isThere, .ref n_size, .ref n_depth, .ref n_memory, .ref n_register, .ref n_mode, .ref n_pc, .ref n_base, .ref n_bound, .ref n_timer, .ref n_ranOut, .ref n_halted, .ref n_steps, .ref n_outs, .ref n_output, .ref n_waits, .ref n_typed, .ref n_disk, .ref n_wants, .int zat, .int zend, .int zline, .ref n_labelFrom, .ref n_labelSize, .ref n_labelAddress, .int zlabels, .int zfault, .int zfaultLine, .int zisTold, .int zaddress, .ref n_made, .int zmissing, .int zgood, .int zvalue, .int zvalueFrom, .int zvalueSize, .int zme])), (n_size, .inl (E.2.1 0, 3, .inl zsize)), (n_base, .inl (E.2.1 0, 3, .inl zbase)), (n_bound, .inl (E.2.1 0, 3, .inl zbound))] := by
  refine jw (by decide +kernel) (Nat.le_of_ble_eq_true rfl) ?_
  intro p e s m below meth c A ls J hJ hAe hsz hA hZ hP hD hl
  rw [← hAe]
  have hS : va_S A s.heap s.heap [] := va_S.rf
  have hl : lv_has ls 4 [(0, .ref n0), (1, .int p1), (2, .int p2)] := hl
  unfold f_MD_bad at h
  refine lv_iconst (v := 0) J.1 J.2.1 d_MD_bad_0 (by decide) ?_
  refine lv_istore_n (lv' := [(3, .int 0), (0, .ref n0), (1, .int p1), (2, .int p2)]) J.1 J.2.1 d_MD_bad_1 rfl hl (by decide) rfl ?_
  clear hl
  intro ls hl
  exact kb_MD_bad_2 J hJ hA hZ _ _ _ _ _ _ _ _ _ _ _ _ _ _ _ _ _ _ _ _ _ _ _ _ _ h hP hD hS (lv_sub hl [1, 2, 3, 0] rfl)

theorem hd_MD_typedNext : y_MD_typedNext.cls ≠ "java/lang/invoke/MethodHandle" ∧ y_MD_typedNext.cls ≠ "java/lang/invoke/VarHandle" ∧ (parseMethodDescriptor y_MD_typedNext.desc).map (fun d => d.parameters.length) = some 0 := by decide +kernel
def b_MD_typedNext_44 : Nat → Int32 → (Nat → Int32) → (Nat → Int32) → Int32 → Int32 → Option (Int32 × (Nat → Int32) × (Nat → Int32))
  | 0, _, _, _, _, _ => none
  | n + 1, zme, zwaits, ztyped, x1, x2 => (if ck zme 3 then (if (zwaits zme.toNatClampNeg) ≤ x2 then (some (x1, zwaits, ztyped)) else (if ck (((100 * zme) + x2) + 1) 300 then (if ck ((100 * zme) + x2) 300 then b_MD_typedNext_44 n zme zwaits (upd ztyped ((100 * zme) + x2).toNatClampNeg (ztyped (((100 * zme) + x2) + 1).toNatClampNeg)) x1 (x2 + 1) else none) else none)) else none)
def f_MD_typedNext (zme : Int32) (zwaits : Nat → Int32) (ztyped : Nat → Int32) : Option (Int32 × (Nat → Int32) × (Nat → Int32)) := (if ck zme 3 then (if (zwaits zme.toNatClampNeg) = (0 : Int32) then (some (65535, zwaits, ztyped)) else (if ck (100 * zme) 300 then (if ck zme 3 then (if ck zme 3 then b_MD_typedNext_44 65536 zme (upd zwaits zme.toNatClampNeg ((zwaits zme.toNatClampNeg) - 1)) ztyped (ztyped (100 * zme).toNatClampNeg) 0 else none) else none) else none)) else none)
set_option maxHeartbeats 4000000 in
set_option maxRecDepth 100000 in
theorem kb_MD_typedNext_44 {p : Program} {l : Launch} {e : Env} {s : State} {m : MethodId} {below : List Frame} {meth : Method} {c : Code} {A : Nat → Prop} {E : jz_E} {n0 n_base n_bound n_depth n_disk n_halted n_isThere n_labelAddress n_labelFrom n_labelSize n_made n_memory n_mode n_output n_outs n_pc n_ranOut n_register n_size n_steps n_tape n_timer n_typed n_waits n_wants : Nat} {o_r : Int32} {o_zwaits : Nat → Int32} {o_ztyped : Nat → Int32} (J : JC p s m ([.ref n0] : List Value).toArray meth c c_MD_typedNext 3 (some .int) y_MD_typedNext.cls) (hJ : jE E s) (hA : ∀ q : Nat, s.heap.size ≤ q → A q) (hZ : jz_ok E A s s.heap) : ∀ (n : Nat) (ztaped : Int32) (zat : Int32) (zend : Int32) (zline : Int32) (zlabels : Int32) (zfault : Int32) (zfaultLine : Int32) (zisTold : Int32) (zaddress : Int32) (zmissing : Int32) (zgood : Int32) (zvalue : Int32) (zvalueFrom : Int32) (zvalueSize : Int32) (zme : Int32) (zwaits : Nat → Int32) (ztyped : Nat → Int32) (x1 : Int32) (x2 : Int32) (H : Heap) (locs : List Loc) (ls : Array Slot), b_MD_typedNext_44 n zme zwaits ztyped x1 x2 = some (o_r, o_zwaits, o_ztyped) → va_P E.1 classes [(n0, .inr (6, [.ref n_tape, .int ztaped, .ref n_isThere, .ref n_size, .ref n_depth, .ref n_memory, .ref n_register, .ref n_mode, .ref n_pc, .ref n_base, .ref n_bound, .ref n_timer, .ref n_ranOut, .ref n_halted, .ref n_steps, .ref n_outs, .ref n_output, .ref n_waits, .ref n_typed, .ref n_disk, .ref n_wants, .int zat, .int zend, .int zline, .ref n_labelFrom, .ref n_labelSize, .ref n_labelAddress, .int zlabels, .int zfault, .int zfaultLine, .int zisTold, .int zaddress, .ref n_made, .int zmissing, .int zgood, .int zvalue, .int zvalueFrom, .int zvalueSize, .int zme])), (n_waits, .inl (E.2.1 0, 3, .inl zwaits)), (n_typed, .inl (E.2.1 0, 300, .inl ztyped))] H → va_D A [(n0, .inr (6, [.ref n_tape, .int ztaped, .ref n_isThere, .ref n_size, .ref n_depth, .ref n_memory, .ref n_register, .ref n_mode, .ref n_pc, .ref n_base, .ref n_bound, .ref n_timer, .ref n_ranOut, .ref n_halted, .ref n_steps, .ref n_outs, .ref n_output, .ref n_waits, .ref n_typed, .ref n_disk, .ref n_wants, .int zat, .int zend, .int zline, .ref n_labelFrom, .ref n_labelSize, .ref n_labelAddress, .int zlabels, .int zfault, .int zfaultLine, .int zisTold, .int zaddress, .ref n_made, .int zmissing, .int zgood, .int zvalue, .int zvalueFrom, .int zvalueSize, .int zme])), (n_waits, .inl (E.2.1 0, 3, .inl zwaits)), (n_typed, .inl (E.2.1 0, 300, .inl ztyped))] → va_S A s.heap H locs → lv_has ls 3 [(0, .ref n0), (1, .int x1), (2, .int x2)] → W p l e ({ frames := 0, cells := 0, slots := 0, locals := 0 }) s m ([.ref n0] : List Value).toArray below meth c H locs 0 0 (MQ below (va_Qi (fun (r' : Int32) (u : va_W) => r' = o_r ∧ u = [(n0, .inr (6, [.ref n_tape, .int ztaped, .ref n_isThere, .ref n_size, .ref n_depth, .ref n_memory, .ref n_register, .ref n_mode, .ref n_pc, .ref n_base, .ref n_bound, .ref n_timer, .ref n_ranOut, .ref n_halted, .ref n_steps, .ref n_outs, .ref n_output, .ref n_waits, .ref n_typed, .ref n_disk, .ref n_wants, .int zat, .int zend, .int zline, .ref n_labelFrom, .ref n_labelSize, .ref n_labelAddress, .int zlabels, .int zfault, .int zfaultLine, .int zisTold, .int zaddress, .ref n_made, .int zmissing, .int zgood, .int zvalue, .int zvalueFrom, .int zvalueSize, .int zme])), (n_waits, .inl (E.2.1 0, 3, .inl o_zwaits)), (n_typed, .inl (E.2.1 0, 300, .inl o_ztyped))]) (BW E A) A) ([.ref n0] : List Value).toArray s 0 0 A) (F0 m 44 ls []) := by
  intro n
  induction n with
  | zero => intro ztaped zat zend zline zlabels zfault zfaultLine zisTold zaddress zmissing zgood zvalue zvalueFrom zvalueSize zme zwaits ztyped x1 x2 H locs ls h; cases h
  | succ n ih =>
    intro ztaped zat zend zline zlabels zfault zfaultLine zisTold zaddress zmissing zgood zvalue zvalueFrom zvalueSize zme zwaits ztyped x1 x2 H locs ls h hP hD hS hl
    rw [b_MD_typedNext_44] at h
    refine lv_iload_n J.1 J.2.1 d_MD_typedNext_44 rfl (lv_at hl 2 rfl) ?_
    refine lv_aload_n J.1 J.2.1 d_MD_typedNext_45 rfl (lv_at hl 0 rfl) ?_
    refine jg J hJ hP 0 rfl rfl i_MD 17 (by decide) gf_MD_68 rfl d_MD_typedNext_46 ?_
    refine lv_aload_n J.1 J.2.1 d_MD_typedNext_49 rfl (lv_at hl 0 rfl) ?_
    refine jg J hJ hP 0 rfl rfl i_MD 38 (by decide) gf_MD_261 rfl d_MD_typedNext_50 ?_
    replace h := g_ck h
    obtain ⟨k_1, h⟩ := h
    refine jai J hJ hP 1 rfl k_1 d_MD_typedNext_53 ?_
    refine lv_icmp_ge (tgt := 93) J.1 J.2.1 d_MD_typedNext_54 (by decide) (fun c_2 => ?_) (fun c_2 => ?_)
    · replace h := g_t c_2 h
      refine lv_iload_n J.1 J.2.1 d_MD_typedNext_93 rfl (lv_at hl 1 rfl) ?_
      have h := Option.some.inj h
      have e_0 := (Prod.mk.inj h).1
      have h := (Prod.mk.inj h).2
      have e_1 := (Prod.mk.inj h).1
      have h := (Prod.mk.inj h).2
      rw [← e_0, ← e_1, ← h]
      exact jr_i J hS hP hD rfl d_MD_typedNext_94
    · replace h := g_f c_2 h
      refine lv_aload_n J.1 J.2.1 d_MD_typedNext_57 rfl (lv_at hl 0 rfl) ?_
      refine jg J hJ hP 0 rfl rfl i_MD 18 (by decide) gf_MD_71 rfl d_MD_typedNext_58 ?_
      refine lv_bipush (v := 100) J.1 J.2.1 d_MD_typedNext_61 (by decide) ?_
      refine lv_aload_n J.1 J.2.1 d_MD_typedNext_63 rfl (lv_at hl 0 rfl) ?_
      refine jg J hJ hP 0 rfl rfl i_MD 38 (by decide) gf_MD_261 rfl d_MD_typedNext_64 ?_
      refine lv_imul J.1 J.2.1 d_MD_typedNext_67 ?_
      refine lv_iload_n J.1 J.2.1 d_MD_typedNext_68 rfl (lv_at hl 2 rfl) ?_
      refine lv_iadd J.1 J.2.1 d_MD_typedNext_69 ?_
      refine lv_aload_n J.1 J.2.1 d_MD_typedNext_70 rfl (lv_at hl 0 rfl) ?_
      refine jg J hJ hP 0 rfl rfl i_MD 18 (by decide) gf_MD_71 rfl d_MD_typedNext_71 ?_
      refine lv_bipush (v := 100) J.1 J.2.1 d_MD_typedNext_74 (by decide) ?_
      refine lv_aload_n J.1 J.2.1 d_MD_typedNext_76 rfl (lv_at hl 0 rfl) ?_
      refine jg J hJ hP 0 rfl rfl i_MD 38 (by decide) gf_MD_261 rfl d_MD_typedNext_77 ?_
      refine lv_imul J.1 J.2.1 d_MD_typedNext_80 ?_
      refine lv_iload_n J.1 J.2.1 d_MD_typedNext_81 rfl (lv_at hl 2 rfl) ?_
      refine lv_iadd J.1 J.2.1 d_MD_typedNext_82 ?_
      refine lv_iconst (v := 1) J.1 J.2.1 d_MD_typedNext_83 (by decide) ?_
      refine lv_iadd J.1 J.2.1 d_MD_typedNext_84 ?_
      replace h := g_ck h
      obtain ⟨k_3, h⟩ := h
      refine jai J hJ hP 2 rfl k_3 d_MD_typedNext_85 ?_
      replace h := g_ck h
      obtain ⟨k_4, h⟩ := h
      refine jsi J hJ hP hD hS 2 rfl k_4 d_MD_typedNext_86 (WS' := [(n0, .inr (6, [.ref n_tape, .int ztaped, .ref n_isThere, .ref n_size, .ref n_depth, .ref n_memory, .ref n_register, .ref n_mode, .ref n_pc, .ref n_base, .ref n_bound, .ref n_timer, .ref n_ranOut, .ref n_halted, .ref n_steps, .ref n_outs, .ref n_output, .ref n_waits, .ref n_typed, .ref n_disk, .ref n_wants, .int zat, .int zend, .int zline, .ref n_labelFrom, .ref n_labelSize, .ref n_labelAddress, .int zlabels, .int zfault, .int zfaultLine, .int zisTold, .int zaddress, .ref n_made, .int zmissing, .int zgood, .int zvalue, .int zvalueFrom, .int zvalueSize, .int zme])), (n_waits, .inl (E.2.1 0, 3, .inl zwaits)), (n_typed, .inl (E.2.1 0, 300, .inl (upd ztyped ((100 * zme) + x2).toNatClampNeg (ztyped (((100 * zme) + x2) + 1).toNatClampNeg))))]) rfl ?_
      clear hP hD hS
      intro H locs hP hD hS
      refine lv_iinc (v := (x2 + 1)) (lv' := [(2, .int (x2 + 1)), (0, .ref n0), (1, .int x1)]) J.1 J.2.1 d_MD_typedNext_87 hl (k := 2) rfl rfl (by decide) rfl ?_
      clear hl
      intro ls hl
      refine lv_goto (tgt := 44) J.1 J.2.1 d_MD_typedNext_90 (by decide) ?_
      exact ih _ _ _ _ _ _ _ _ _ _ _ _ _ _ _ _ _ _ _ _ _ _ h hP hD hS (lv_sub hl [1, 2, 0] rfl)
set_option maxHeartbeats 4000000 in
set_option maxRecDepth 100000 in
theorem ct_MD_typedNext (l : Launch) (E : jz_E) (n0 n_base n_bound n_depth n_disk n_halted n_isThere n_labelAddress n_labelFrom n_labelSize n_made n_memory n_mode n_output n_outs n_pc n_ranOut n_register n_size n_steps n_tape n_timer n_typed n_waits n_wants : Nat) (sz : Nat) (ztaped : Int32) (zat : Int32) (zend : Int32) (zline : Int32) (zlabels : Int32) (zfault : Int32) (zfaultLine : Int32) (zisTold : Int32) (zaddress : Int32) (zmissing : Int32) (zgood : Int32) (zvalue : Int32) (zvalueFrom : Int32) (zvalueSize : Int32) (zme : Int32) (zwaits : Nat → Int32) (ztyped : Nat → Int32) (o_r : Int32) (o_zwaits : Nat → Int32) (o_ztyped : Nat → Int32)  (h : f_MD_typedNext zme zwaits ztyped = some (o_r, o_zwaits, o_ztyped)) : CTi l E y_MD_typedNext c_MD_typedNext 3 (some .int) ({ frames := 0, cells := 0, slots := 0, locals := 0 }) [.ref n0] [(n0, .inr (6, [.ref n_tape, .int ztaped, .ref n_isThere, .ref n_size, .ref n_depth, .ref n_memory, .ref n_register, .ref n_mode, .ref n_pc, .ref n_base, .ref n_bound, .ref n_timer, .ref n_ranOut, .ref n_halted, .ref n_steps, .ref n_outs, .ref n_output, .ref n_waits, .ref n_typed, .ref n_disk, .ref n_wants, .int zat, .int zend, .int zline, .ref n_labelFrom, .ref n_labelSize, .ref n_labelAddress, .int zlabels, .int zfault, .int zfaultLine, .int zisTold, .int zaddress, .ref n_made, .int zmissing, .int zgood, .int zvalue, .int zvalueFrom, .int zvalueSize, .int zme])), (n_waits, .inl (E.2.1 0, 3, .inl zwaits)), (n_typed, .inl (E.2.1 0, 300, .inl ztyped))] sz o_r [(n0, .inr (6, [.ref n_tape, .int ztaped, .ref n_isThere, .ref n_size, .ref n_depth, .ref n_memory, .ref n_register, .ref n_mode, .ref n_pc, .ref n_base, .ref n_bound, .ref n_timer, .ref n_ranOut, .ref n_halted, .ref n_steps, .ref n_outs, .ref n_output, .ref n_waits, .ref n_typed, .ref n_disk, .ref n_wants, .int zat, .int zend, .int zline, .ref n_labelFrom, .ref n_labelSize, .ref n_labelAddress, .int zlabels, .int zfault, .int zfaultLine, .int zisTold, .int zaddress, .ref n_made, .int zmissing, .int zgood, .int zvalue, .int zvalueFrom, .int zvalueSize, .int zme])), (n_waits, .inl (E.2.1 0, 3, .inl o_zwaits)), (n_typed, .inl (E.2.1 0, 300, .inl o_ztyped))] := by
  refine jw (by decide +kernel) (Nat.le_of_ble_eq_true rfl) ?_
  intro p e s m below meth c A ls J hJ hAe hsz hA hZ hP hD hl
  rw [← hAe]
  have hS : va_S A s.heap s.heap [] := va_S.rf
  have hl : lv_has ls 3 [(0, .ref n0)] := hl
  unfold f_MD_typedNext at h
  refine lv_aload_n J.1 J.2.1 d_MD_typedNext_0 rfl (lv_at hl 0 rfl) ?_
  refine jg J hJ hP 0 rfl rfl i_MD 17 (by decide) gf_MD_68 rfl d_MD_typedNext_1 ?_
  refine lv_aload_n J.1 J.2.1 d_MD_typedNext_4 rfl (lv_at hl 0 rfl) ?_
  refine jg J hJ hP 0 rfl rfl i_MD 38 (by decide) gf_MD_261 rfl d_MD_typedNext_5 ?_
  replace h := g_ck h
  obtain ⟨k_5, h⟩ := h
  refine jai J hJ hP 1 rfl k_5 d_MD_typedNext_8 ?_
  refine lv_if_ne (tgt := 16) J.1 J.2.1 d_MD_typedNext_9 (by decide) (fun c_6 => ?_) (fun c_6 => ?_)
  · replace h := g_f c_6 h
    refine lv_aload_n J.1 J.2.1 d_MD_typedNext_16 rfl (lv_at hl 0 rfl) ?_
    refine jg J hJ hP 0 rfl rfl i_MD 18 (by decide) gf_MD_71 rfl d_MD_typedNext_17 ?_
    refine lv_bipush (v := 100) J.1 J.2.1 d_MD_typedNext_20 (by decide) ?_
    refine lv_aload_n J.1 J.2.1 d_MD_typedNext_22 rfl (lv_at hl 0 rfl) ?_
    refine jg J hJ hP 0 rfl rfl i_MD 38 (by decide) gf_MD_261 rfl d_MD_typedNext_23 ?_
    refine lv_imul J.1 J.2.1 d_MD_typedNext_26 ?_
    replace h := g_ck h
    obtain ⟨k_7, h⟩ := h
    refine jai J hJ hP 2 rfl k_7 d_MD_typedNext_27 ?_
    refine lv_istore_n (lv' := [(1, .int (ztyped (100 * zme).toNatClampNeg)), (0, .ref n0)]) J.1 J.2.1 d_MD_typedNext_28 rfl hl (by decide) rfl ?_
    clear hl
    intro ls hl
    refine lv_aload_n J.1 J.2.1 d_MD_typedNext_29 rfl (lv_at hl 1 rfl) ?_
    refine jg J hJ hP 0 rfl rfl i_MD 17 (by decide) gf_MD_68 rfl d_MD_typedNext_30 ?_
    refine lv_aload_n J.1 J.2.1 d_MD_typedNext_33 rfl (lv_at hl 1 rfl) ?_
    refine jg J hJ hP 0 rfl rfl i_MD 38 (by decide) gf_MD_261 rfl d_MD_typedNext_34 ?_
    refine lv_dup2_11 J.1 J.2.1 d_MD_typedNext_37 rfl rfl ?_
    replace h := g_ck h
    obtain ⟨k_8, h⟩ := h
    refine jai J hJ hP 1 rfl k_8 d_MD_typedNext_38 ?_
    refine lv_iconst (v := 1) J.1 J.2.1 d_MD_typedNext_39 (by decide) ?_
    refine lv_isub J.1 J.2.1 d_MD_typedNext_40 ?_
    replace h := g_ck h
    obtain ⟨k_9, h⟩ := h
    refine jsi J hJ hP hD hS 1 rfl k_9 d_MD_typedNext_41 (WS' := [(n0, .inr (6, [.ref n_tape, .int ztaped, .ref n_isThere, .ref n_size, .ref n_depth, .ref n_memory, .ref n_register, .ref n_mode, .ref n_pc, .ref n_base, .ref n_bound, .ref n_timer, .ref n_ranOut, .ref n_halted, .ref n_steps, .ref n_outs, .ref n_output, .ref n_waits, .ref n_typed, .ref n_disk, .ref n_wants, .int zat, .int zend, .int zline, .ref n_labelFrom, .ref n_labelSize, .ref n_labelAddress, .int zlabels, .int zfault, .int zfaultLine, .int zisTold, .int zaddress, .ref n_made, .int zmissing, .int zgood, .int zvalue, .int zvalueFrom, .int zvalueSize, .int zme])), (n_waits, .inl (E.2.1 0, 3, .inl (upd zwaits zme.toNatClampNeg ((zwaits zme.toNatClampNeg) - 1)))), (n_typed, .inl (E.2.1 0, 300, .inl ztyped))]) rfl ?_
    clear hP hD hS
    intro H locs hP hD hS
    refine lv_iconst (v := 0) J.1 J.2.1 d_MD_typedNext_42 (by decide) ?_
    refine lv_istore_n (lv' := [(2, .int 0), (1, .int (ztyped (100 * zme).toNatClampNeg)), (0, .ref n0)]) J.1 J.2.1 d_MD_typedNext_43 rfl hl (by decide) rfl ?_
    clear hl
    intro ls hl
    exact kb_MD_typedNext_44 J hJ hA hZ _ _ _ _ _ _ _ _ _ _ _ _ _ _ _ _ _ _ _ _ _ _ _ h hP hD hS (lv_sub hl [2, 1, 0] rfl)
  · replace h := g_t c_6 h
    refine lv_ldcw (v := 65535) J.1 J.2.1 J.2.2.2.2.1 (J.2.2.2.2.2.1 _ gk_MD_291) d_MD_typedNext_12 ?_
    have h := Option.some.inj h
    have e_0 := (Prod.mk.inj h).1
    have h := (Prod.mk.inj h).2
    have e_1 := (Prod.mk.inj h).1
    have h := (Prod.mk.inj h).2
    rw [← e_0, ← e_1, ← h]
    exact jr_i J hS hP hD rfl d_MD_typedNext_15
