theorem hd_MD_rest : y_MD_rest.cls ≠ "java/lang/invoke/MethodHandle" ∧ y_MD_rest.cls ≠ "java/lang/invoke/VarHandle" ∧ (parseMethodDescriptor y_MD_rest.desc).map (fun d => d.parameters.length) = some 4 := by decide +kernel
def b_MD_rest_114 (zme : Int32) (zmemory : Nat → Int32) (zregister : Nat → Int32) (zmode : Nat → Int32) (zpc : Nat → Int32) (zbase : Nat → Int32) (zbound : Nat → Int32) (ztimer : Nat → Int32) (zranOut : Nat → Int32) (zouts : Nat → Int32) (zoutput : Nat → Int32) (zwaits : Nat → Int32) (ztyped : Nat → Int32) (zdisk : Nat → Int32) (x7 : Int32) (x8 : Int32) (x9 : Int32) : Option ((Nat → Int32) × (Nat → Int32) × (Nat → Int32) × (Nat → Int32) × (Nat → Int32) × (Nat → Int32) × (Nat → Int32) × (Nat → Int32) × (Nat → Int32) × (Nat → Int32) × (Nat → Int32) × (Nat → Int32) × (Nat → Int32)) := (if ck zme 3 then (if ck zme 3 then (if ck zme 3 then (some (zmemory, zregister, zmode, (upd zpc zme.toNatClampNeg x7), (upd zbase zme.toNatClampNeg x8), (upd zbound zme.toNatClampNeg x9), ztimer, zranOut, zouts, zoutput, zwaits, ztyped, zdisk)) else none) else none) else none)
def b_MD_rest_335 (zme : Int32) (zmemory : Nat → Int32) (zregister : Nat → Int32) (zmode : Nat → Int32) (zpc : Nat → Int32) (zbase : Nat → Int32) (zbound : Nat → Int32) (ztimer : Nat → Int32) (zranOut : Nat → Int32) (zouts : Nat → Int32) (zoutput : Nat → Int32) (zwaits : Nat → Int32) (ztyped : Nat → Int32) (zdisk : Nat → Int32) : Option ((Nat → Int32) × (Nat → Int32) × (Nat → Int32) × (Nat → Int32) × (Nat → Int32) × (Nat → Int32) × (Nat → Int32) × (Nat → Int32) × (Nat → Int32) × (Nat → Int32) × (Nat → Int32) × (Nat → Int32) × (Nat → Int32)) := (if ck zme 3 then (if ck zme 3 then (some (zmemory, zregister, zmode, zpc, zbase, zbound, ztimer, zranOut, (upd zouts zme.toNatClampNeg ((zouts zme.toNatClampNeg) + 1)), zoutput, zwaits, ztyped, zdisk)) else none) else none)
def b_MD_rest_378 : Nat → Int32 → (Nat → Int32) → (Nat → Int32) → (Nat → Int32) → (Nat → Int32) → (Nat → Int32) → (Nat → Int32) → (Nat → Int32) → (Nat → Int32) → (Nat → Int32) → (Nat → Int32) → (Nat → Int32) → (Nat → Int32) → (Nat → Int32) → Int32 → Int32 → Int32 → Int32 → Option ((Nat → Int32) × (Nat → Int32) × (Nat → Int32) × (Nat → Int32) × (Nat → Int32) × (Nat → Int32) × (Nat → Int32) × (Nat → Int32) × (Nat → Int32) × (Nat → Int32) × (Nat → Int32) × (Nat → Int32) × (Nat → Int32))
  | 0, _, _, _, _, _, _, _, _, _, _, _, _, _, _, _, _, _, _ => none
  | n + 1, zme, zmemory, zregister, zmode, zpc, zbase, zbound, ztimer, zranOut, zouts, zoutput, zwaits, ztyped, zdisk, x1, x4, x10, x11 => (if (16 : Int32) ≤ x11 then (some (zmemory, zregister, zmode, zpc, zbase, zbound, ztimer, zranOut, zouts, zoutput, zwaits, ztyped, zdisk)) else (if x1 = (23 : Int32) then (if ck (x10 + x11) 384 then ((f_MD_set zme zmemory zbase ((x4 + x11) - (x4 + x11) / 65536 * 65536) (zdisk (x10 + x11).toNatClampNeg)).bind fun zmemory_11 => b_MD_rest_378 n zme zmemory_11 zregister zmode zpc zbase zbound ztimer zranOut zouts zoutput zwaits ztyped zdisk x1 x4 x10 (x11 + 1)) else none) else ((f_MD_get zme zmemory zbase ((x4 + x11) - (x4 + x11) / 65536 * 65536)).bind fun r_8 => (if ck (x10 + x11) 384 then b_MD_rest_378 n zme zmemory zregister zmode zpc zbase zbound ztimer zranOut zouts zoutput zwaits ztyped (upd zdisk (x10 + x11).toNatClampNeg r_8) x1 x4 x10 (x11 + 1) else none))))
def f_MD_rest (zme : Int32) (zmemory : Nat → Int32) (zregister : Nat → Int32) (zmode : Nat → Int32) (zpc : Nat → Int32) (zbase : Nat → Int32) (zbound : Nat → Int32) (ztimer : Nat → Int32) (zranOut : Nat → Int32) (zouts : Nat → Int32) (zoutput : Nat → Int32) (zwaits : Nat → Int32) (ztyped : Nat → Int32) (zdisk : Nat → Int32) (p1 : Int32) (p2 : Int32) (p3 : Int32) (p4 : Int32) : Option ((Nat → Int32) × (Nat → Int32) × (Nat → Int32) × (Nat → Int32) × (Nat → Int32) × (Nat → Int32) × (Nat → Int32) × (Nat → Int32) × (Nat → Int32) × (Nat → Int32) × (Nat → Int32) × (Nat → Int32) × (Nat → Int32)) := (if (p1) = 17 then ((f_MD_get zme zmemory zbase p3).bind fun r_13 => ((f_MD_get zme zmemory zbase ((p3 + 1) - (p3 + 1) / 65536 * 65536)).bind fun r_14 => ((f_MD_get zme zmemory zbase ((p3 + 2) - (p3 + 2) / 65536 * 65536)).bind fun r_15 => ((f_MD_get zme zmemory zbase ((p3 + 3) - (p3 + 3) / 65536 * 65536)).bind fun r_16 => (if r_13 = (0 : Int32) then (if ck zme 3 then b_MD_rest_114 zme zmemory zregister (upd zmode zme.toNatClampNeg 0) zpc zbase zbound ztimer zranOut zouts zoutput zwaits ztyped zdisk r_14 r_15 r_16 else none) else (if ck zme 3 then b_MD_rest_114 zme zmemory zregister (upd zmode zme.toNatClampNeg 1) zpc zbase zbound ztimer zranOut zouts zoutput zwaits ztyped zdisk r_14 r_15 r_16 else none)))))) else (if (p1) = 18 then (if ck zme 3 then ((f_MD_set zme zmemory zbase p3 (zmode zme.toNatClampNeg)).bind fun zmemory_22 => (if ck zme 3 then ((f_MD_set zme zmemory_22 zbase ((p3 + 1) - (p3 + 1) / 65536 * 65536) (zpc zme.toNatClampNeg)).bind fun zmemory_24 => (if ck zme 3 then ((f_MD_set zme zmemory_24 zbase ((p3 + 2) - (p3 + 2) / 65536 * 65536) (zbase zme.toNatClampNeg)).bind fun zmemory_26 => (if ck zme 3 then ((f_MD_set zme zmemory_26 zbase ((p3 + 3) - (p3 + 3) / 65536 * 65536) (zbound zme.toNatClampNeg)).bind fun zmemory_28 => (some (zmemory_28, zregister, zmode, zpc, zbase, zbound, ztimer, zranOut, zouts, zoutput, zwaits, ztyped, zdisk))) else none)) else none)) else none)) else none) else (if (p1) = 19 then (if ck ((8 * zme) + p2) 24 then (if ck zme 3 then (if ck zme 3 then (some (zmemory, zregister, zmode, zpc, zbase, zbound, (upd ztimer zme.toNatClampNeg (zregister ((8 * zme) + p2).toNatClampNeg)), (upd zranOut zme.toNatClampNeg (vp_nar .boolean 0)), zouts, zoutput, zwaits, ztyped, zdisk)) else none) else none) else none) else (if (p1) = 20 then (if ck zme 3 then (if ck ((8 * zme) + p2) 24 then (some (zmemory, (upd zregister ((8 * zme) + p2).toNatClampNeg (ztimer zme.toNatClampNeg)), zmode, zpc, zbase, zbound, ztimer, zranOut, zouts, zoutput, zwaits, ztyped, zdisk)) else none) else none) else (if (p1) = 21 then ((f_MD_typedNext zme zwaits ztyped).bind fun (r_37, zwaits_37, ztyped_37) => (if ck ((8 * zme) + p2) 24 then (some (zmemory, (upd zregister ((8 * zme) + p2).toNatClampNeg r_37), zmode, zpc, zbase, zbound, ztimer, zranOut, zouts, zoutput, zwaits_37, ztyped_37, zdisk)) else none)) else (if (p1) = 22 then (if ck zme 3 then (if (500 : Int32) ≤ (zouts zme.toNatClampNeg) then b_MD_rest_335 zme zmemory zregister zmode zpc zbase zbound ztimer zranOut zouts zoutput zwaits ztyped zdisk else (if ck zme 3 then (if ck ((8 * zme) + p2) 24 then (if ck ((500 * zme) + (zouts zme.toNatClampNeg)) 1500 then b_MD_rest_335 zme zmemory zregister zmode zpc zbase zbound ztimer zranOut zouts (upd zoutput ((500 * zme) + (zouts zme.toNatClampNeg)).toNatClampNeg ((zregister ((8 * zme) + p2).toNatClampNeg) &&& 255)) zwaits ztyped zdisk else none) else none) else none)) else none) else (if ck ((8 * zme) + p2) 24 then b_MD_rest_378 65536 zme zmemory zregister zmode zpc zbase zbound ztimer zranOut zouts zoutput zwaits ztyped zdisk p1 p4 ((128 * zme) + (16 * ((zregister ((8 * zme) + p2).toNatClampNeg) - (zregister ((8 * zme) + p2).toNatClampNeg) / 8 * 8))) 0 else none)))))))
set_option maxHeartbeats 4000000 in
set_option maxRecDepth 100000 in
theorem kb_MD_rest_114 {p : Program} {l : Launch} {e : Env} {s : State} {m : MethodId} {below : List Frame} {meth : Method} {c : Code} {A : Nat → Prop} {E : jz_E} {n0 n_base n_bound n_depth n_disk n_halted n_isThere n_labelAddress n_labelFrom n_labelSize n_made n_memory n_mode n_output n_outs n_pc n_ranOut n_register n_size n_steps n_tape n_timer n_typed n_waits n_wants : Nat} {p1 : Int32} {p2 : Int32} {p3 : Int32} {p4 : Int32} {o_zmemory : Nat → Int32} {o_zregister : Nat → Int32} {o_zmode : Nat → Int32} {o_zpc : Nat → Int32} {o_zbase : Nat → Int32} {o_zbound : Nat → Int32} {o_ztimer : Nat → Int32} {o_zranOut : Nat → Int32} {o_zouts : Nat → Int32} {o_zoutput : Nat → Int32} {o_zwaits : Nat → Int32} {o_ztyped : Nat → Int32} {o_zdisk : Nat → Int32} (J : JC p s m ([.ref n0, .int p1, .int p2, .int p3, .int p4] : List Value).toArray meth c c_MD_rest 12 none y_MD_rest.cls) (hJ : jE E s) (hA : ∀ q : Nat, s.heap.size ≤ q → A q) (hZ : jz_ok E A s s.heap) : ∀ (ztaped : Int32) (zat : Int32) (zend : Int32) (zline : Int32) (zlabels : Int32) (zfault : Int32) (zfaultLine : Int32) (zisTold : Int32) (zaddress : Int32) (zmissing : Int32) (zgood : Int32) (zvalue : Int32) (zvalueFrom : Int32) (zvalueSize : Int32) (zme : Int32) (zmemory : Nat → Int32) (zregister : Nat → Int32) (zmode : Nat → Int32) (zpc : Nat → Int32) (zbase : Nat → Int32) (zbound : Nat → Int32) (ztimer : Nat → Int32) (zranOut : Nat → Int32) (zouts : Nat → Int32) (zoutput : Nat → Int32) (zwaits : Nat → Int32) (ztyped : Nat → Int32) (zdisk : Nat → Int32) (x7 : Int32) (x8 : Int32) (x9 : Int32) (H : Heap) (locs : List Loc) (ls : Array Slot), b_MD_rest_114 zme zmemory zregister zmode zpc zbase zbound ztimer zranOut zouts zoutput zwaits ztyped zdisk x7 x8 x9 = some (o_zmemory, o_zregister, o_zmode, o_zpc, o_zbase, o_zbound, o_ztimer, o_zranOut, o_zouts, o_zoutput, o_zwaits, o_ztyped, o_zdisk) → va_P E.1 classes [(n0, .inr (6, [.ref n_tape, .int ztaped, .ref n_isThere, .ref n_size, .ref n_depth, .ref n_memory, .ref n_register, .ref n_mode, .ref n_pc, .ref n_base, .ref n_bound, .ref n_timer, .ref n_ranOut, .ref n_halted, .ref n_steps, .ref n_outs, .ref n_output, .ref n_waits, .ref n_typed, .ref n_disk, .ref n_wants, .int zat, .int zend, .int zline, .ref n_labelFrom, .ref n_labelSize, .ref n_labelAddress, .int zlabels, .int zfault, .int zfaultLine, .int zisTold, .int zaddress, .ref n_made, .int zmissing, .int zgood, .int zvalue, .int zvalueFrom, .int zvalueSize, .int zme])), (n_memory, .inl (E.2.1 0, 3072, .inl zmemory)), (n_register, .inl (E.2.1 0, 24, .inl zregister)), (n_mode, .inl (E.2.1 0, 3, .inl zmode)), (n_pc, .inl (E.2.1 0, 3, .inl zpc)), (n_base, .inl (E.2.1 0, 3, .inl zbase)), (n_bound, .inl (E.2.1 0, 3, .inl zbound)), (n_timer, .inl (E.2.1 0, 3, .inl ztimer)), (n_ranOut, .inl (E.2.1 3, 3, .inl zranOut)), (n_outs, .inl (E.2.1 0, 3, .inl zouts)), (n_output, .inl (E.2.1 0, 1500, .inl zoutput)), (n_waits, .inl (E.2.1 0, 3, .inl zwaits)), (n_typed, .inl (E.2.1 0, 300, .inl ztyped)), (n_disk, .inl (E.2.1 0, 384, .inl zdisk))] H → va_D A [(n0, .inr (6, [.ref n_tape, .int ztaped, .ref n_isThere, .ref n_size, .ref n_depth, .ref n_memory, .ref n_register, .ref n_mode, .ref n_pc, .ref n_base, .ref n_bound, .ref n_timer, .ref n_ranOut, .ref n_halted, .ref n_steps, .ref n_outs, .ref n_output, .ref n_waits, .ref n_typed, .ref n_disk, .ref n_wants, .int zat, .int zend, .int zline, .ref n_labelFrom, .ref n_labelSize, .ref n_labelAddress, .int zlabels, .int zfault, .int zfaultLine, .int zisTold, .int zaddress, .ref n_made, .int zmissing, .int zgood, .int zvalue, .int zvalueFrom, .int zvalueSize, .int zme])), (n_memory, .inl (E.2.1 0, 3072, .inl zmemory)), (n_register, .inl (E.2.1 0, 24, .inl zregister)), (n_mode, .inl (E.2.1 0, 3, .inl zmode)), (n_pc, .inl (E.2.1 0, 3, .inl zpc)), (n_base, .inl (E.2.1 0, 3, .inl zbase)), (n_bound, .inl (E.2.1 0, 3, .inl zbound)), (n_timer, .inl (E.2.1 0, 3, .inl ztimer)), (n_ranOut, .inl (E.2.1 3, 3, .inl zranOut)), (n_outs, .inl (E.2.1 0, 3, .inl zouts)), (n_output, .inl (E.2.1 0, 1500, .inl zoutput)), (n_waits, .inl (E.2.1 0, 3, .inl zwaits)), (n_typed, .inl (E.2.1 0, 300, .inl ztyped)), (n_disk, .inl (E.2.1 0, 384, .inl zdisk))] → va_S A s.heap H locs → lv_has ls 12 [(0, .ref n0), (7, .int x7), (8, .int x8), (9, .int x9)] → W p l e ({ frames := 1, cells := 0, slots := 0, locals := 22 }) s m ([.ref n0, .int p1, .int p2, .int p3, .int p4] : List Value).toArray below meth c H locs 0 0 (MQ below (va_Qv (fun (u : va_W) => u = [(n0, .inr (6, [.ref n_tape, .int ztaped, .ref n_isThere, .ref n_size, .ref n_depth, .ref n_memory, .ref n_register, .ref n_mode, .ref n_pc, .ref n_base, .ref n_bound, .ref n_timer, .ref n_ranOut, .ref n_halted, .ref n_steps, .ref n_outs, .ref n_output, .ref n_waits, .ref n_typed, .ref n_disk, .ref n_wants, .int zat, .int zend, .int zline, .ref n_labelFrom, .ref n_labelSize, .ref n_labelAddress, .int zlabels, .int zfault, .int zfaultLine, .int zisTold, .int zaddress, .ref n_made, .int zmissing, .int zgood, .int zvalue, .int zvalueFrom, .int zvalueSize, .int zme])), (n_memory, .inl (E.2.1 0, 3072, .inl o_zmemory)), (n_register, .inl (E.2.1 0, 24, .inl o_zregister)), (n_mode, .inl (E.2.1 0, 3, .inl o_zmode)), (n_pc, .inl (E.2.1 0, 3, .inl o_zpc)), (n_base, .inl (E.2.1 0, 3, .inl o_zbase)), (n_bound, .inl (E.2.1 0, 3, .inl o_zbound)), (n_timer, .inl (E.2.1 0, 3, .inl o_ztimer)), (n_ranOut, .inl (E.2.1 3, 3, .inl o_zranOut)), (n_outs, .inl (E.2.1 0, 3, .inl o_zouts)), (n_output, .inl (E.2.1 0, 1500, .inl o_zoutput)), (n_waits, .inl (E.2.1 0, 3, .inl o_zwaits)), (n_typed, .inl (E.2.1 0, 300, .inl o_ztyped)), (n_disk, .inl (E.2.1 0, 384, .inl o_zdisk))]) (BW E A) A) ([.ref n0, .int p1, .int p2, .int p3, .int p4] : List Value).toArray s 0 0 A) (F0 m 114 ls []) := by
  intro ztaped zat zend zline zlabels zfault zfaultLine zisTold zaddress zmissing zgood zvalue zvalueFrom zvalueSize zme zmemory zregister zmode zpc zbase zbound ztimer zranOut zouts zoutput zwaits ztyped zdisk x7 x8 x9 H locs ls h hP hD hS hl
  rw [b_MD_rest_114] at h
  refine lv_aload_n J.1 J.2.1 d_MD_rest_114 rfl (lv_at hl 0 rfl) ?_
  refine jg J hJ hP 0 rfl rfl i_MD 8 (by decide) gf_MD_41 rfl d_MD_rest_115 ?_
  refine lv_aload_n J.1 J.2.1 d_MD_rest_118 rfl (lv_at hl 0 rfl) ?_
  refine jg J hJ hP 0 rfl rfl i_MD 38 (by decide) gf_MD_261 rfl d_MD_rest_119 ?_
  refine lv_iload J.1 J.2.1 d_MD_rest_122 (lv_at hl 1 rfl) ?_
  replace h := g_ck h
  obtain ⟨k_1, h⟩ := h
  refine jsi J hJ hP hD hS 4 rfl k_1 d_MD_rest_124 (WS' := [(n0, .inr (6, [.ref n_tape, .int ztaped, .ref n_isThere, .ref n_size, .ref n_depth, .ref n_memory, .ref n_register, .ref n_mode, .ref n_pc, .ref n_base, .ref n_bound, .ref n_timer, .ref n_ranOut, .ref n_halted, .ref n_steps, .ref n_outs, .ref n_output, .ref n_waits, .ref n_typed, .ref n_disk, .ref n_wants, .int zat, .int zend, .int zline, .ref n_labelFrom, .ref n_labelSize, .ref n_labelAddress, .int zlabels, .int zfault, .int zfaultLine, .int zisTold, .int zaddress, .ref n_made, .int zmissing, .int zgood, .int zvalue, .int zvalueFrom, .int zvalueSize, .int zme])), (n_memory, .inl (E.2.1 0, 3072, .inl zmemory)), (n_register, .inl (E.2.1 0, 24, .inl zregister)), (n_mode, .inl (E.2.1 0, 3, .inl zmode)), (n_pc, .inl (E.2.1 0, 3, .inl (upd zpc zme.toNatClampNeg x7))), (n_base, .inl (E.2.1 0, 3, .inl zbase)), (n_bound, .inl (E.2.1 0, 3, .inl zbound)), (n_timer, .inl (E.2.1 0, 3, .inl ztimer)), (n_ranOut, .inl (E.2.1 3, 3, .inl zranOut)), (n_outs, .inl (E.2.1 0, 3, .inl zouts)), (n_output, .inl (E.2.1 0, 1500, .inl zoutput)), (n_waits, .inl (E.2.1 0, 3, .inl zwaits)), (n_typed, .inl (E.2.1 0, 300, .inl ztyped)), (n_disk, .inl (E.2.1 0, 384, .inl zdisk))]) rfl ?_
  clear hP hD hS
  intro H locs hP hD hS
  refine lv_aload_n J.1 J.2.1 d_MD_rest_125 rfl (lv_at hl 0 rfl) ?_
  refine jg J hJ hP 0 rfl rfl i_MD 9 (by decide) gf_MD_44 rfl d_MD_rest_126 ?_
  refine lv_aload_n J.1 J.2.1 d_MD_rest_129 rfl (lv_at hl 0 rfl) ?_
  refine jg J hJ hP 0 rfl rfl i_MD 38 (by decide) gf_MD_261 rfl d_MD_rest_130 ?_
  refine lv_iload J.1 J.2.1 d_MD_rest_133 (lv_at hl 2 rfl) ?_
  replace h := g_ck h
  obtain ⟨k_2, h⟩ := h
  refine jsi J hJ hP hD hS 5 rfl k_2 d_MD_rest_135 (WS' := [(n0, .inr (6, [.ref n_tape, .int ztaped, .ref n_isThere, .ref n_size, .ref n_depth, .ref n_memory, .ref n_register, .ref n_mode, .ref n_pc, .ref n_base, .ref n_bound, .ref n_timer, .ref n_ranOut, .ref n_halted, .ref n_steps, .ref n_outs, .ref n_output, .ref n_waits, .ref n_typed, .ref n_disk, .ref n_wants, .int zat, .int zend, .int zline, .ref n_labelFrom, .ref n_labelSize, .ref n_labelAddress, .int zlabels, .int zfault, .int zfaultLine, .int zisTold, .int zaddress, .ref n_made, .int zmissing, .int zgood, .int zvalue, .int zvalueFrom, .int zvalueSize, .int zme])), (n_memory, .inl (E.2.1 0, 3072, .inl zmemory)), (n_register, .inl (E.2.1 0, 24, .inl zregister)), (n_mode, .inl (E.2.1 0, 3, .inl zmode)), (n_pc, .inl (E.2.1 0, 3, .inl (upd zpc zme.toNatClampNeg x7))), (n_base, .inl (E.2.1 0, 3, .inl (upd zbase zme.toNatClampNeg x8))), (n_bound, .inl (E.2.1 0, 3, .inl zbound)), (n_timer, .inl (E.2.1 0, 3, .inl ztimer)), (n_ranOut, .inl (E.2.1 3, 3, .inl zranOut)), (n_outs, .inl (E.2.1 0, 3, .inl zouts)), (n_output, .inl (E.2.1 0, 1500, .inl zoutput)), (n_waits, .inl (E.2.1 0, 3, .inl zwaits)), (n_typed, .inl (E.2.1 0, 300, .inl ztyped)), (n_disk, .inl (E.2.1 0, 384, .inl zdisk))]) rfl ?_
  clear hP hD hS
  intro H locs hP hD hS
  refine lv_aload_n J.1 J.2.1 d_MD_rest_136 rfl (lv_at hl 0 rfl) ?_
  refine jg J hJ hP 0 rfl rfl i_MD 10 (by decide) gf_MD_47 rfl d_MD_rest_137 ?_
  refine lv_aload_n J.1 J.2.1 d_MD_rest_140 rfl (lv_at hl 0 rfl) ?_
  refine jg J hJ hP 0 rfl rfl i_MD 38 (by decide) gf_MD_261 rfl d_MD_rest_141 ?_
  refine lv_iload J.1 J.2.1 d_MD_rest_144 (lv_at hl 3 rfl) ?_
  replace h := g_ck h
  obtain ⟨k_3, h⟩ := h
  refine jsi J hJ hP hD hS 6 rfl k_3 d_MD_rest_146 (WS' := [(n0, .inr (6, [.ref n_tape, .int ztaped, .ref n_isThere, .ref n_size, .ref n_depth, .ref n_memory, .ref n_register, .ref n_mode, .ref n_pc, .ref n_base, .ref n_bound, .ref n_timer, .ref n_ranOut, .ref n_halted, .ref n_steps, .ref n_outs, .ref n_output, .ref n_waits, .ref n_typed, .ref n_disk, .ref n_wants, .int zat, .int zend, .int zline, .ref n_labelFrom, .ref n_labelSize, .ref n_labelAddress, .int zlabels, .int zfault, .int zfaultLine, .int zisTold, .int zaddress, .ref n_made, .int zmissing, .int zgood, .int zvalue, .int zvalueFrom, .int zvalueSize, .int zme])), (n_memory, .inl (E.2.1 0, 3072, .inl zmemory)), (n_register, .inl (E.2.1 0, 24, .inl zregister)), (n_mode, .inl (E.2.1 0, 3, .inl zmode)), (n_pc, .inl (E.2.1 0, 3, .inl (upd zpc zme.toNatClampNeg x7))), (n_base, .inl (E.2.1 0, 3, .inl (upd zbase zme.toNatClampNeg x8))), (n_bound, .inl (E.2.1 0, 3, .inl (upd zbound zme.toNatClampNeg x9))), (n_timer, .inl (E.2.1 0, 3, .inl ztimer)), (n_ranOut, .inl (E.2.1 3, 3, .inl zranOut)), (n_outs, .inl (E.2.1 0, 3, .inl zouts)), (n_output, .inl (E.2.1 0, 1500, .inl zoutput)), (n_waits, .inl (E.2.1 0, 3, .inl zwaits)), (n_typed, .inl (E.2.1 0, 300, .inl ztyped)), (n_disk, .inl (E.2.1 0, 384, .inl zdisk))]) rfl ?_
  clear hP hD hS
  intro H locs hP hD hS
  refine lv_goto (tgt := 444) J.1 J.2.1 d_MD_rest_147 (by decide) ?_
  have h := Option.some.inj h
  have e_0 := (Prod.mk.inj h).1
  have h := (Prod.mk.inj h).2
  have e_1 := (Prod.mk.inj h).1
  have h := (Prod.mk.inj h).2
  have e_2 := (Prod.mk.inj h).1
  have h := (Prod.mk.inj h).2
  have e_3 := (Prod.mk.inj h).1
  have h := (Prod.mk.inj h).2
  have e_4 := (Prod.mk.inj h).1
  have h := (Prod.mk.inj h).2
  have e_5 := (Prod.mk.inj h).1
  have h := (Prod.mk.inj h).2
  have e_6 := (Prod.mk.inj h).1
  have h := (Prod.mk.inj h).2
  have e_7 := (Prod.mk.inj h).1
  have h := (Prod.mk.inj h).2
  have e_8 := (Prod.mk.inj h).1
  have h := (Prod.mk.inj h).2
  have e_9 := (Prod.mk.inj h).1
  have h := (Prod.mk.inj h).2
  have e_10 := (Prod.mk.inj h).1
  have h := (Prod.mk.inj h).2
  have e_11 := (Prod.mk.inj h).1
  have h := (Prod.mk.inj h).2
  rw [← e_0, ← e_1, ← e_2, ← e_3, ← e_4, ← e_5, ← e_6, ← e_7, ← e_8, ← e_9, ← e_10, ← e_11, ← h]
  exact jr_v J hS hP hD d_MD_rest_444
set_option maxHeartbeats 4000000 in
set_option maxRecDepth 100000 in
theorem kb_MD_rest_335 {p : Program} {l : Launch} {e : Env} {s : State} {m : MethodId} {below : List Frame} {meth : Method} {c : Code} {A : Nat → Prop} {E : jz_E} {n0 n_base n_bound n_depth n_disk n_halted n_isThere n_labelAddress n_labelFrom n_labelSize n_made n_memory n_mode n_output n_outs n_pc n_ranOut n_register n_size n_steps n_tape n_timer n_typed n_waits n_wants : Nat} {p1 : Int32} {p2 : Int32} {p3 : Int32} {p4 : Int32} {o_zmemory : Nat → Int32} {o_zregister : Nat → Int32} {o_zmode : Nat → Int32} {o_zpc : Nat → Int32} {o_zbase : Nat → Int32} {o_zbound : Nat → Int32} {o_ztimer : Nat → Int32} {o_zranOut : Nat → Int32} {o_zouts : Nat → Int32} {o_zoutput : Nat → Int32} {o_zwaits : Nat → Int32} {o_ztyped : Nat → Int32} {o_zdisk : Nat → Int32} (J : JC p s m ([.ref n0, .int p1, .int p2, .int p3, .int p4] : List Value).toArray meth c c_MD_rest 12 none y_MD_rest.cls) (hJ : jE E s) (hA : ∀ q : Nat, s.heap.size ≤ q → A q) (hZ : jz_ok E A s s.heap) : ∀ (ztaped : Int32) (zat : Int32) (zend : Int32) (zline : Int32) (zlabels : Int32) (zfault : Int32) (zfaultLine : Int32) (zisTold : Int32) (zaddress : Int32) (zmissing : Int32) (zgood : Int32) (zvalue : Int32) (zvalueFrom : Int32) (zvalueSize : Int32) (zme : Int32) (zmemory : Nat → Int32) (zregister : Nat → Int32) (zmode : Nat → Int32) (zpc : Nat → Int32) (zbase : Nat → Int32) (zbound : Nat → Int32) (ztimer : Nat → Int32) (zranOut : Nat → Int32) (zouts : Nat → Int32) (zoutput : Nat → Int32) (zwaits : Nat → Int32) (ztyped : Nat → Int32) (zdisk : Nat → Int32) (H : Heap) (locs : List Loc) (ls : Array Slot), b_MD_rest_335 zme zmemory zregister zmode zpc zbase zbound ztimer zranOut zouts zoutput zwaits ztyped zdisk = some (o_zmemory, o_zregister, o_zmode, o_zpc, o_zbase, o_zbound, o_ztimer, o_zranOut, o_zouts, o_zoutput, o_zwaits, o_ztyped, o_zdisk) → va_P E.1 classes [(n0, .inr (6, [.ref n_tape, .int ztaped, .ref n_isThere, .ref n_size, .ref n_depth, .ref n_memory, .ref n_register, .ref n_mode, .ref n_pc, .ref n_base, .ref n_bound, .ref n_timer, .ref n_ranOut, .ref n_halted, .ref n_steps, .ref n_outs, .ref n_output, .ref n_waits, .ref n_typed, .ref n_disk, .ref n_wants, .int zat, .int zend, .int zline, .ref n_labelFrom, .ref n_labelSize, .ref n_labelAddress, .int zlabels, .int zfault, .int zfaultLine, .int zisTold, .int zaddress, .ref n_made, .int zmissing, .int zgood, .int zvalue, .int zvalueFrom, .int zvalueSize, .int zme])), (n_memory, .inl (E.2.1 0, 3072, .inl zmemory)), (n_register, .inl (E.2.1 0, 24, .inl zregister)), (n_mode, .inl (E.2.1 0, 3, .inl zmode)), (n_pc, .inl (E.2.1 0, 3, .inl zpc)), (n_base, .inl (E.2.1 0, 3, .inl zbase)), (n_bound, .inl (E.2.1 0, 3, .inl zbound)), (n_timer, .inl (E.2.1 0, 3, .inl ztimer)), (n_ranOut, .inl (E.2.1 3, 3, .inl zranOut)), (n_outs, .inl (E.2.1 0, 3, .inl zouts)), (n_output, .inl (E.2.1 0, 1500, .inl zoutput)), (n_waits, .inl (E.2.1 0, 3, .inl zwaits)), (n_typed, .inl (E.2.1 0, 300, .inl ztyped)), (n_disk, .inl (E.2.1 0, 384, .inl zdisk))] H → va_D A [(n0, .inr (6, [.ref n_tape, .int ztaped, .ref n_isThere, .ref n_size, .ref n_depth, .ref n_memory, .ref n_register, .ref n_mode, .ref n_pc, .ref n_base, .ref n_bound, .ref n_timer, .ref n_ranOut, .ref n_halted, .ref n_steps, .ref n_outs, .ref n_output, .ref n_waits, .ref n_typed, .ref n_disk, .ref n_wants, .int zat, .int zend, .int zline, .ref n_labelFrom, .ref n_labelSize, .ref n_labelAddress, .int zlabels, .int zfault, .int zfaultLine, .int zisTold, .int zaddress, .ref n_made, .int zmissing, .int zgood, .int zvalue, .int zvalueFrom, .int zvalueSize, .int zme])), (n_memory, .inl (E.2.1 0, 3072, .inl zmemory)), (n_register, .inl (E.2.1 0, 24, .inl zregister)), (n_mode, .inl (E.2.1 0, 3, .inl zmode)), (n_pc, .inl (E.2.1 0, 3, .inl zpc)), (n_base, .inl (E.2.1 0, 3, .inl zbase)), (n_bound, .inl (E.2.1 0, 3, .inl zbound)), (n_timer, .inl (E.2.1 0, 3, .inl ztimer)), (n_ranOut, .inl (E.2.1 3, 3, .inl zranOut)), (n_outs, .inl (E.2.1 0, 3, .inl zouts)), (n_output, .inl (E.2.1 0, 1500, .inl zoutput)), (n_waits, .inl (E.2.1 0, 3, .inl zwaits)), (n_typed, .inl (E.2.1 0, 300, .inl ztyped)), (n_disk, .inl (E.2.1 0, 384, .inl zdisk))] → va_S A s.heap H locs → lv_has ls 12 [(0, .ref n0)] → W p l e ({ frames := 1, cells := 0, slots := 0, locals := 22 }) s m ([.ref n0, .int p1, .int p2, .int p3, .int p4] : List Value).toArray below meth c H locs 0 0 (MQ below (va_Qv (fun (u : va_W) => u = [(n0, .inr (6, [.ref n_tape, .int ztaped, .ref n_isThere, .ref n_size, .ref n_depth, .ref n_memory, .ref n_register, .ref n_mode, .ref n_pc, .ref n_base, .ref n_bound, .ref n_timer, .ref n_ranOut, .ref n_halted, .ref n_steps, .ref n_outs, .ref n_output, .ref n_waits, .ref n_typed, .ref n_disk, .ref n_wants, .int zat, .int zend, .int zline, .ref n_labelFrom, .ref n_labelSize, .ref n_labelAddress, .int zlabels, .int zfault, .int zfaultLine, .int zisTold, .int zaddress, .ref n_made, .int zmissing, .int zgood, .int zvalue, .int zvalueFrom, .int zvalueSize, .int zme])), (n_memory, .inl (E.2.1 0, 3072, .inl o_zmemory)), (n_register, .inl (E.2.1 0, 24, .inl o_zregister)), (n_mode, .inl (E.2.1 0, 3, .inl o_zmode)), (n_pc, .inl (E.2.1 0, 3, .inl o_zpc)), (n_base, .inl (E.2.1 0, 3, .inl o_zbase)), (n_bound, .inl (E.2.1 0, 3, .inl o_zbound)), (n_timer, .inl (E.2.1 0, 3, .inl o_ztimer)), (n_ranOut, .inl (E.2.1 3, 3, .inl o_zranOut)), (n_outs, .inl (E.2.1 0, 3, .inl o_zouts)), (n_output, .inl (E.2.1 0, 1500, .inl o_zoutput)), (n_waits, .inl (E.2.1 0, 3, .inl o_zwaits)), (n_typed, .inl (E.2.1 0, 300, .inl o_ztyped)), (n_disk, .inl (E.2.1 0, 384, .inl o_zdisk))]) (BW E A) A) ([.ref n0, .int p1, .int p2, .int p3, .int p4] : List Value).toArray s 0 0 A) (F0 m 335 ls []) := by
  intro ztaped zat zend zline zlabels zfault zfaultLine zisTold zaddress zmissing zgood zvalue zvalueFrom zvalueSize zme zmemory zregister zmode zpc zbase zbound ztimer zranOut zouts zoutput zwaits ztyped zdisk H locs ls h hP hD hS hl
  rw [b_MD_rest_335] at h
  refine lv_aload_n J.1 J.2.1 d_MD_rest_335 rfl (lv_at hl 0 rfl) ?_
  refine jg J hJ hP 0 rfl rfl i_MD 15 (by decide) gf_MD_62 rfl d_MD_rest_336 ?_
  refine lv_aload_n J.1 J.2.1 d_MD_rest_339 rfl (lv_at hl 0 rfl) ?_
  refine jg J hJ hP 0 rfl rfl i_MD 38 (by decide) gf_MD_261 rfl d_MD_rest_340 ?_
  refine lv_dup2_11 J.1 J.2.1 d_MD_rest_343 rfl rfl ?_
  replace h := g_ck h
  obtain ⟨k_4, h⟩ := h
  refine jai J hJ hP 9 rfl k_4 d_MD_rest_344 ?_
  refine lv_iconst (v := 1) J.1 J.2.1 d_MD_rest_345 (by decide) ?_
  refine lv_iadd J.1 J.2.1 d_MD_rest_346 ?_
  replace h := g_ck h
  obtain ⟨k_5, h⟩ := h
  refine jsi J hJ hP hD hS 9 rfl k_5 d_MD_rest_347 (WS' := [(n0, .inr (6, [.ref n_tape, .int ztaped, .ref n_isThere, .ref n_size, .ref n_depth, .ref n_memory, .ref n_register, .ref n_mode, .ref n_pc, .ref n_base, .ref n_bound, .ref n_timer, .ref n_ranOut, .ref n_halted, .ref n_steps, .ref n_outs, .ref n_output, .ref n_waits, .ref n_typed, .ref n_disk, .ref n_wants, .int zat, .int zend, .int zline, .ref n_labelFrom, .ref n_labelSize, .ref n_labelAddress, .int zlabels, .int zfault, .int zfaultLine, .int zisTold, .int zaddress, .ref n_made, .int zmissing, .int zgood, .int zvalue, .int zvalueFrom, .int zvalueSize, .int zme])), (n_memory, .inl (E.2.1 0, 3072, .inl zmemory)), (n_register, .inl (E.2.1 0, 24, .inl zregister)), (n_mode, .inl (E.2.1 0, 3, .inl zmode)), (n_pc, .inl (E.2.1 0, 3, .inl zpc)), (n_base, .inl (E.2.1 0, 3, .inl zbase)), (n_bound, .inl (E.2.1 0, 3, .inl zbound)), (n_timer, .inl (E.2.1 0, 3, .inl ztimer)), (n_ranOut, .inl (E.2.1 3, 3, .inl zranOut)), (n_outs, .inl (E.2.1 0, 3, .inl (upd zouts zme.toNatClampNeg ((zouts zme.toNatClampNeg) + 1)))), (n_output, .inl (E.2.1 0, 1500, .inl zoutput)), (n_waits, .inl (E.2.1 0, 3, .inl zwaits)), (n_typed, .inl (E.2.1 0, 300, .inl ztyped)), (n_disk, .inl (E.2.1 0, 384, .inl zdisk))]) rfl ?_
  clear hP hD hS
  intro H locs hP hD hS
  refine lv_goto (tgt := 444) J.1 J.2.1 d_MD_rest_348 (by decide) ?_
  have h := Option.some.inj h
  have e_0 := (Prod.mk.inj h).1
  have h := (Prod.mk.inj h).2
  have e_1 := (Prod.mk.inj h).1
  have h := (Prod.mk.inj h).2
  have e_2 := (Prod.mk.inj h).1
  have h := (Prod.mk.inj h).2
  have e_3 := (Prod.mk.inj h).1
  have h := (Prod.mk.inj h).2
  have e_4 := (Prod.mk.inj h).1
  have h := (Prod.mk.inj h).2
  have e_5 := (Prod.mk.inj h).1
  have h := (Prod.mk.inj h).2
  have e_6 := (Prod.mk.inj h).1
  have h := (Prod.mk.inj h).2
  have e_7 := (Prod.mk.inj h).1
  have h := (Prod.mk.inj h).2
  have e_8 := (Prod.mk.inj h).1
  have h := (Prod.mk.inj h).2
  have e_9 := (Prod.mk.inj h).1
  have h := (Prod.mk.inj h).2
  have e_10 := (Prod.mk.inj h).1
  have h := (Prod.mk.inj h).2
  have e_11 := (Prod.mk.inj h).1
  have h := (Prod.mk.inj h).2
  rw [← e_0, ← e_1, ← e_2, ← e_3, ← e_4, ← e_5, ← e_6, ← e_7, ← e_8, ← e_9, ← e_10, ← e_11, ← h]
  exact jr_v J hS hP hD d_MD_rest_444
set_option maxHeartbeats 4000000 in
set_option maxRecDepth 100000 in
theorem kb_MD_rest_378 {p : Program} {l : Launch} {e : Env} {s : State} {m : MethodId} {below : List Frame} {meth : Method} {c : Code} {A : Nat → Prop} {E : jz_E} {n0 n_base n_bound n_depth n_disk n_halted n_isThere n_labelAddress n_labelFrom n_labelSize n_made n_memory n_mode n_output n_outs n_pc n_ranOut n_register n_size n_steps n_tape n_timer n_typed n_waits n_wants : Nat} {p1 : Int32} {p2 : Int32} {p3 : Int32} {p4 : Int32} {o_zmemory : Nat → Int32} {o_zregister : Nat → Int32} {o_zmode : Nat → Int32} {o_zpc : Nat → Int32} {o_zbase : Nat → Int32} {o_zbound : Nat → Int32} {o_ztimer : Nat → Int32} {o_zranOut : Nat → Int32} {o_zouts : Nat → Int32} {o_zoutput : Nat → Int32} {o_zwaits : Nat → Int32} {o_ztyped : Nat → Int32} {o_zdisk : Nat → Int32} (J : JC p s m ([.ref n0, .int p1, .int p2, .int p3, .int p4] : List Value).toArray meth c c_MD_rest 12 none y_MD_rest.cls) (hJ : jE E s) (hA : ∀ q : Nat, s.heap.size ≤ q → A q) (hZ : jz_ok E A s s.heap) : ∀ (n : Nat) (ztaped : Int32) (zat : Int32) (zend : Int32) (zline : Int32) (zlabels : Int32) (zfault : Int32) (zfaultLine : Int32) (zisTold : Int32) (zaddress : Int32) (zmissing : Int32) (zgood : Int32) (zvalue : Int32) (zvalueFrom : Int32) (zvalueSize : Int32) (zme : Int32) (zmemory : Nat → Int32) (zregister : Nat → Int32) (zmode : Nat → Int32) (zpc : Nat → Int32) (zbase : Nat → Int32) (zbound : Nat → Int32) (ztimer : Nat → Int32) (zranOut : Nat → Int32) (zouts : Nat → Int32) (zoutput : Nat → Int32) (zwaits : Nat → Int32) (ztyped : Nat → Int32) (zdisk : Nat → Int32) (x1 : Int32) (x4 : Int32) (x10 : Int32) (x11 : Int32) (H : Heap) (locs : List Loc) (ls : Array Slot), b_MD_rest_378 n zme zmemory zregister zmode zpc zbase zbound ztimer zranOut zouts zoutput zwaits ztyped zdisk x1 x4 x10 x11 = some (o_zmemory, o_zregister, o_zmode, o_zpc, o_zbase, o_zbound, o_ztimer, o_zranOut, o_zouts, o_zoutput, o_zwaits, o_ztyped, o_zdisk) → va_P E.1 classes [(n0, .inr (6, [.ref n_tape, .int ztaped, .ref n_isThere, .ref n_size, .ref n_depth, .ref n_memory, .ref n_register, .ref n_mode, .ref n_pc, .ref n_base, .ref n_bound, .ref n_timer, .ref n_ranOut, .ref n_halted, .ref n_steps, .ref n_outs, .ref n_output, .ref n_waits, .ref n_typed, .ref n_disk, .ref n_wants, .int zat, .int zend, .int zline, .ref n_labelFrom, .ref n_labelSize, .ref n_labelAddress, .int zlabels, .int zfault, .int zfaultLine, .int zisTold, .int zaddress, .ref n_made, .int zmissing, .int zgood, .int zvalue, .int zvalueFrom, .int zvalueSize, .int zme])), (n_memory, .inl (E.2.1 0, 3072, .inl zmemory)), (n_register, .inl (E.2.1 0, 24, .inl zregister)), (n_mode, .inl (E.2.1 0, 3, .inl zmode)), (n_pc, .inl (E.2.1 0, 3, .inl zpc)), (n_base, .inl (E.2.1 0, 3, .inl zbase)), (n_bound, .inl (E.2.1 0, 3, .inl zbound)), (n_timer, .inl (E.2.1 0, 3, .inl ztimer)), (n_ranOut, .inl (E.2.1 3, 3, .inl zranOut)), (n_outs, .inl (E.2.1 0, 3, .inl zouts)), (n_output, .inl (E.2.1 0, 1500, .inl zoutput)), (n_waits, .inl (E.2.1 0, 3, .inl zwaits)), (n_typed, .inl (E.2.1 0, 300, .inl ztyped)), (n_disk, .inl (E.2.1 0, 384, .inl zdisk))] H → va_D A [(n0, .inr (6, [.ref n_tape, .int ztaped, .ref n_isThere, .ref n_size, .ref n_depth, .ref n_memory, .ref n_register, .ref n_mode, .ref n_pc, .ref n_base, .ref n_bound, .ref n_timer, .ref n_ranOut, .ref n_halted, .ref n_steps, .ref n_outs, .ref n_output, .ref n_waits, .ref n_typed, .ref n_disk, .ref n_wants, .int zat, .int zend, .int zline, .ref n_labelFrom, .ref n_labelSize, .ref n_labelAddress, .int zlabels, .int zfault, .int zfaultLine, .int zisTold, .int zaddress, .ref n_made, .int zmissing, .int zgood, .int zvalue, .int zvalueFrom, .int zvalueSize, .int zme])), (n_memory, .inl (E.2.1 0, 3072, .inl zmemory)), (n_register, .inl (E.2.1 0, 24, .inl zregister)), (n_mode, .inl (E.2.1 0, 3, .inl zmode)), (n_pc, .inl (E.2.1 0, 3, .inl zpc)), (n_base, .inl (E.2.1 0, 3, .inl zbase)), (n_bound, .inl (E.2.1 0, 3, .inl zbound)), (n_timer, .inl (E.2.1 0, 3, .inl ztimer)), (n_ranOut, .inl (E.2.1 3, 3, .inl zranOut)), (n_outs, .inl (E.2.1 0, 3, .inl zouts)), (n_output, .inl (E.2.1 0, 1500, .inl zoutput)), (n_waits, .inl (E.2.1 0, 3, .inl zwaits)), (n_typed, .inl (E.2.1 0, 300, .inl ztyped)), (n_disk, .inl (E.2.1 0, 384, .inl zdisk))] → va_S A s.heap H locs → lv_has ls 12 [(0, .ref n0), (1, .int x1), (4, .int x4), (10, .int x10), (11, .int x11)] → W p l e ({ frames := 1, cells := 0, slots := 0, locals := 22 }) s m ([.ref n0, .int p1, .int p2, .int p3, .int p4] : List Value).toArray below meth c H locs 0 0 (MQ below (va_Qv (fun (u : va_W) => u = [(n0, .inr (6, [.ref n_tape, .int ztaped, .ref n_isThere, .ref n_size, .ref n_depth, .ref n_memory, .ref n_register, .ref n_mode, .ref n_pc, .ref n_base, .ref n_bound, .ref n_timer, .ref n_ranOut, .ref n_halted, .ref n_steps, .ref n_outs, .ref n_output, .ref n_waits, .ref n_typed, .ref n_disk, .ref n_wants, .int zat, .int zend, .int zline, .ref n_labelFrom, .ref n_labelSize, .ref n_labelAddress, .int zlabels, .int zfault, .int zfaultLine, .int zisTold, .int zaddress, .ref n_made, .int zmissing, .int zgood, .int zvalue, .int zvalueFrom, .int zvalueSize, .int zme])), (n_memory, .inl (E.2.1 0, 3072, .inl o_zmemory)), (n_register, .inl (E.2.1 0, 24, .inl o_zregister)), (n_mode, .inl (E.2.1 0, 3, .inl o_zmode)), (n_pc, .inl (E.2.1 0, 3, .inl o_zpc)), (n_base, .inl (E.2.1 0, 3, .inl o_zbase)), (n_bound, .inl (E.2.1 0, 3, .inl o_zbound)), (n_timer, .inl (E.2.1 0, 3, .inl o_ztimer)), (n_ranOut, .inl (E.2.1 3, 3, .inl o_zranOut)), (n_outs, .inl (E.2.1 0, 3, .inl o_zouts)), (n_output, .inl (E.2.1 0, 1500, .inl o_zoutput)), (n_waits, .inl (E.2.1 0, 3, .inl o_zwaits)), (n_typed, .inl (E.2.1 0, 300, .inl o_ztyped)), (n_disk, .inl (E.2.1 0, 384, .inl o_zdisk))]) (BW E A) A) ([.ref n0, .int p1, .int p2, .int p3, .int p4] : List Value).toArray s 0 0 A) (F0 m 378 ls []) := by
  intro n
  induction n with
  | zero => intro ztaped zat zend zline zlabels zfault zfaultLine zisTold zaddress zmissing zgood zvalue zvalueFrom zvalueSize zme zmemory zregister zmode zpc zbase zbound ztimer zranOut zouts zoutput zwaits ztyped zdisk x1 x4 x10 x11 H locs ls h; cases h
  | succ n ih =>
    intro ztaped zat zend zline zlabels zfault zfaultLine zisTold zaddress zmissing zgood zvalue zvalueFrom zvalueSize zme zmemory zregister zmode zpc zbase zbound ztimer zranOut zouts zoutput zwaits ztyped zdisk x1 x4 x10 x11 H locs ls h hP hD hS hl
    rw [b_MD_rest_378] at h
    refine lv_iload J.1 J.2.1 d_MD_rest_378 (lv_at hl 4 rfl) ?_
    refine lv_bipush (v := 16) J.1 J.2.1 d_MD_rest_380 (by decide) ?_
    refine lv_icmp_ge (tgt := 444) J.1 J.2.1 d_MD_rest_382 (by decide) (fun c_6 => ?_) (fun c_6 => ?_)
    · replace h := g_t c_6 h
      have h := Option.some.inj h
      have e_0 := (Prod.mk.inj h).1
      have h := (Prod.mk.inj h).2
      have e_1 := (Prod.mk.inj h).1
      have h := (Prod.mk.inj h).2
      have e_2 := (Prod.mk.inj h).1
      have h := (Prod.mk.inj h).2
      have e_3 := (Prod.mk.inj h).1
      have h := (Prod.mk.inj h).2
      have e_4 := (Prod.mk.inj h).1
      have h := (Prod.mk.inj h).2
      have e_5 := (Prod.mk.inj h).1
      have h := (Prod.mk.inj h).2
      have e_6 := (Prod.mk.inj h).1
      have h := (Prod.mk.inj h).2
      have e_7 := (Prod.mk.inj h).1
      have h := (Prod.mk.inj h).2
      have e_8 := (Prod.mk.inj h).1
      have h := (Prod.mk.inj h).2
      have e_9 := (Prod.mk.inj h).1
      have h := (Prod.mk.inj h).2
      have e_10 := (Prod.mk.inj h).1
      have h := (Prod.mk.inj h).2
      have e_11 := (Prod.mk.inj h).1
      have h := (Prod.mk.inj h).2
      rw [← e_0, ← e_1, ← e_2, ← e_3, ← e_4, ← e_5, ← e_6, ← e_7, ← e_8, ← e_9, ← e_10, ← e_11, ← h]
      exact jr_v J hS hP hD d_MD_rest_444
    · replace h := g_f c_6 h
      refine lv_iload_n J.1 J.2.1 d_MD_rest_385 rfl (lv_at hl 1 rfl) ?_
      refine lv_bipush (v := 23) J.1 J.2.1 d_MD_rest_386 (by decide) ?_
      refine lv_icmp_ne (tgt := 416) J.1 J.2.1 d_MD_rest_388 (by decide) (fun c_7 => ?_) (fun c_7 => ?_)
      · replace h := g_f c_7 h
        refine lv_aload_n J.1 J.2.1 d_MD_rest_416 rfl (lv_at hl 0 rfl) ?_
        refine jg J hJ hP 0 rfl rfl i_MD 19 (by decide) gf_MD_74 rfl d_MD_rest_417 ?_
        refine lv_iload J.1 J.2.1 d_MD_rest_420 (lv_at hl 3 rfl) ?_
        refine lv_iload J.1 J.2.1 d_MD_rest_422 (lv_at hl 4 rfl) ?_
        refine lv_iadd J.1 J.2.1 d_MD_rest_424 ?_
        refine lv_aload_n J.1 J.2.1 d_MD_rest_425 rfl (lv_at hl 0 rfl) ?_
        refine lv_iload J.1 J.2.1 d_MD_rest_426 (lv_at hl 2 rfl) ?_
        refine lv_iload J.1 J.2.1 d_MD_rest_428 (lv_at hl 4 rfl) ?_
        refine lv_iadd J.1 J.2.1 d_MD_rest_430 ?_
        refine lv_ldc (v := 65536) J.1 J.2.1 J.2.2.2.2.1 (J.2.2.2.2.2.1 _ gk_MD_187) d_MD_rest_431 ?_
        refine lv_irem J.1 J.2.1 d_MD_rest_433 (by decide) ?_
        replace h := g_bd h
        obtain ⟨r_8, q_8, h⟩ := h
        have hq := ct_MD_get l E n0 n_base n_bound n_depth n_disk n_halted n_isThere n_labelAddress n_labelFrom n_labelSize n_made n_memory n_mode n_output n_outs n_pc n_ranOut n_register n_size n_steps n_tape n_timer n_typed n_waits n_wants H.size ztaped zat zend zline zlabels zfault zfaultLine zisTold zaddress zmissing zgood zvalue zvalueFrom zvalueSize zme zmemory zbase ((x4 + x11) - (x4 + x11) / 65536 * 65536) r_8 q_8
        have hr := jrunV (p := p) (e := e) (below := below) (R := ({ frames := 1, cells := 0, slots := 0, locals := 22 })) (cells := 0) (slots := 0) (As := [.int ((x4 + x11) - (x4 + x11) / 65536 * 65536)]) (rest := [.int (x10 + x11), .ref n_disk]) J hJ hA hZ hP hD hS hq [0, 1, 5] rfl (by decide) gl_MD_273 gi_MD_get gsel_MD_get gini_MD gc_MD_get hd_MD_get ⟨rfl, rfl, Nat.le_of_ble_eq_true rfl, Nat.le_of_ble_eq_true rfl⟩ rfl rfl hl.1 rfl rfl (Nat.le_of_ble_eq_true rfl) d_MD_rest_434 ⟨Nat.zero_le _, Nat.zero_le _⟩
        clear hq
        refine jk_i hr hA hP hD hS [0, 1, 5] [2, 3, 4, 6, 7, 8, 9, 10, 11, 12, 13] (WR := [(n_register, .inl (E.2.1 0, 24, .inl zregister)), (n_mode, .inl (E.2.1 0, 3, .inl zmode)), (n_pc, .inl (E.2.1 0, 3, .inl zpc)), (n_bound, .inl (E.2.1 0, 3, .inl zbound)), (n_timer, .inl (E.2.1 0, 3, .inl ztimer)), (n_ranOut, .inl (E.2.1 3, 3, .inl zranOut)), (n_outs, .inl (E.2.1 0, 3, .inl zouts)), (n_output, .inl (E.2.1 0, 1500, .inl zoutput)), (n_waits, .inl (E.2.1 0, 3, .inl zwaits)), (n_typed, .inl (E.2.1 0, 300, .inl ztyped)), (n_disk, .inl (E.2.1 0, 384, .inl zdisk))]) rfl rfl (by decide) (by decide) [11, 12, 0, 1, 2, 13, 3, 4, 5, 6, 7, 8, 9, 10] (WF := [(n0, .inr (6, [.ref n_tape, .int ztaped, .ref n_isThere, .ref n_size, .ref n_depth, .ref n_memory, .ref n_register, .ref n_mode, .ref n_pc, .ref n_base, .ref n_bound, .ref n_timer, .ref n_ranOut, .ref n_halted, .ref n_steps, .ref n_outs, .ref n_output, .ref n_waits, .ref n_typed, .ref n_disk, .ref n_wants, .int zat, .int zend, .int zline, .ref n_labelFrom, .ref n_labelSize, .ref n_labelAddress, .int zlabels, .int zfault, .int zfaultLine, .int zisTold, .int zaddress, .ref n_made, .int zmissing, .int zgood, .int zvalue, .int zvalueFrom, .int zvalueSize, .int zme])), (n_memory, .inl (E.2.1 0, 3072, .inl zmemory)), (n_register, .inl (E.2.1 0, 24, .inl zregister)), (n_mode, .inl (E.2.1 0, 3, .inl zmode)), (n_pc, .inl (E.2.1 0, 3, .inl zpc)), (n_base, .inl (E.2.1 0, 3, .inl zbase)), (n_bound, .inl (E.2.1 0, 3, .inl zbound)), (n_timer, .inl (E.2.1 0, 3, .inl ztimer)), (n_ranOut, .inl (E.2.1 3, 3, .inl zranOut)), (n_outs, .inl (E.2.1 0, 3, .inl zouts)), (n_output, .inl (E.2.1 0, 1500, .inl zoutput)), (n_waits, .inl (E.2.1 0, 3, .inl zwaits)), (n_typed, .inl (E.2.1 0, 300, .inl ztyped)), (n_disk, .inl (E.2.1 0, 384, .inl zdisk))]) rfl (by decide) ?_
        clear hP hD hS
        intro H locs hP hD hS
        clear hr
        replace h := g_ck h
        obtain ⟨k_9, h⟩ := h
        refine jsi J hJ hP hD hS 13 rfl k_9 d_MD_rest_437 (WS' := [(n0, .inr (6, [.ref n_tape, .int ztaped, .ref n_isThere, .ref n_size, .ref n_depth, .ref n_memory, .ref n_register, .ref n_mode, .ref n_pc, .ref n_base, .ref n_bound, .ref n_timer, .ref n_ranOut, .ref n_halted, .ref n_steps, .ref n_outs, .ref n_output, .ref n_waits, .ref n_typed, .ref n_disk, .ref n_wants, .int zat, .int zend, .int zline, .ref n_labelFrom, .ref n_labelSize, .ref n_labelAddress, .int zlabels, .int zfault, .int zfaultLine, .int zisTold, .int zaddress, .ref n_made, .int zmissing, .int zgood, .int zvalue, .int zvalueFrom, .int zvalueSize, .int zme])), (n_memory, .inl (E.2.1 0, 3072, .inl zmemory)), (n_register, .inl (E.2.1 0, 24, .inl zregister)), (n_mode, .inl (E.2.1 0, 3, .inl zmode)), (n_pc, .inl (E.2.1 0, 3, .inl zpc)), (n_base, .inl (E.2.1 0, 3, .inl zbase)), (n_bound, .inl (E.2.1 0, 3, .inl zbound)), (n_timer, .inl (E.2.1 0, 3, .inl ztimer)), (n_ranOut, .inl (E.2.1 3, 3, .inl zranOut)), (n_outs, .inl (E.2.1 0, 3, .inl zouts)), (n_output, .inl (E.2.1 0, 1500, .inl zoutput)), (n_waits, .inl (E.2.1 0, 3, .inl zwaits)), (n_typed, .inl (E.2.1 0, 300, .inl ztyped)), (n_disk, .inl (E.2.1 0, 384, .inl (upd zdisk (x10 + x11).toNatClampNeg r_8)))]) rfl ?_
        clear hP hD hS
        intro H locs hP hD hS
        refine lv_iinc (v := (x11 + 1)) (lv' := [(11, .int (x11 + 1)), (0, .ref n0), (1, .int x1), (4, .int x4), (10, .int x10)]) J.1 J.2.1 d_MD_rest_438 hl (k := 4) rfl rfl (by decide) rfl ?_
        clear hl
        intro ls hl
        refine lv_goto (tgt := 378) J.1 J.2.1 d_MD_rest_441 (by decide) ?_
        exact ih _ _ _ _ _ _ _ _ _ _ _ _ _ _ _ _ _ _ _ _ _ _ _ _ _ _ _ _ _ _ _ _ _ _ _ h hP hD hS (lv_sub hl [1, 2, 3, 4, 0] rfl)
      · replace h := g_t c_7 h
        refine lv_aload_n J.1 J.2.1 d_MD_rest_391 rfl (lv_at hl 0 rfl) ?_
        refine lv_iload J.1 J.2.1 d_MD_rest_392 (lv_at hl 2 rfl) ?_
        refine lv_iload J.1 J.2.1 d_MD_rest_394 (lv_at hl 4 rfl) ?_
        refine lv_iadd J.1 J.2.1 d_MD_rest_396 ?_
        refine lv_ldc (v := 65536) J.1 J.2.1 J.2.2.2.2.1 (J.2.2.2.2.2.1 _ gk_MD_187) d_MD_rest_397 ?_
        refine lv_irem J.1 J.2.1 d_MD_rest_399 (by decide) ?_
        refine lv_aload_n J.1 J.2.1 d_MD_rest_400 rfl (lv_at hl 0 rfl) ?_
        refine jg J hJ hP 0 rfl rfl i_MD 19 (by decide) gf_MD_74 rfl d_MD_rest_401 ?_
        refine lv_iload J.1 J.2.1 d_MD_rest_404 (lv_at hl 3 rfl) ?_
        refine lv_iload J.1 J.2.1 d_MD_rest_406 (lv_at hl 4 rfl) ?_
        refine lv_iadd J.1 J.2.1 d_MD_rest_408 ?_
        replace h := g_ck h
        obtain ⟨k_10, h⟩ := h
        refine jai J hJ hP 13 rfl k_10 d_MD_rest_409 ?_
        replace h := g_bd h
        obtain ⟨zmemory_11, q_11, h⟩ := h
        have hq := ct_MD_set l E n0 n_base n_bound n_depth n_disk n_halted n_isThere n_labelAddress n_labelFrom n_labelSize n_made n_memory n_mode n_output n_outs n_pc n_ranOut n_register n_size n_steps n_tape n_timer n_typed n_waits n_wants H.size ztaped zat zend zline zlabels zfault zfaultLine zisTold zaddress zmissing zgood zvalue zvalueFrom zvalueSize zme zmemory zbase ((x4 + x11) - (x4 + x11) / 65536 * 65536) (zdisk (x10 + x11).toNatClampNeg) zmemory_11 q_11
        have hr := jrunV (p := p) (e := e) (below := below) (R := ({ frames := 1, cells := 0, slots := 0, locals := 22 })) (cells := 0) (slots := 0) (As := [.int ((x4 + x11) - (x4 + x11) / 65536 * 65536), .int (zdisk (x10 + x11).toNatClampNeg)]) (rest := []) J hJ hA hZ hP hD hS hq [0, 1, 5] rfl (by decide) gl_MD_280 gi_MD_set gsel_MD_set gini_MD gc_MD_set hd_MD_set ⟨rfl, rfl, Nat.le_of_ble_eq_true rfl, Nat.le_of_ble_eq_true rfl⟩ rfl rfl hl.1 rfl rfl (Nat.le_of_ble_eq_true rfl) d_MD_rest_410 ⟨Nat.zero_le _, Nat.zero_le _⟩
        clear hq
        refine jk_v hr hA hP hD hS [0, 1, 5] [2, 3, 4, 6, 7, 8, 9, 10, 11, 12, 13] (WR := [(n_register, .inl (E.2.1 0, 24, .inl zregister)), (n_mode, .inl (E.2.1 0, 3, .inl zmode)), (n_pc, .inl (E.2.1 0, 3, .inl zpc)), (n_bound, .inl (E.2.1 0, 3, .inl zbound)), (n_timer, .inl (E.2.1 0, 3, .inl ztimer)), (n_ranOut, .inl (E.2.1 3, 3, .inl zranOut)), (n_outs, .inl (E.2.1 0, 3, .inl zouts)), (n_output, .inl (E.2.1 0, 1500, .inl zoutput)), (n_waits, .inl (E.2.1 0, 3, .inl zwaits)), (n_typed, .inl (E.2.1 0, 300, .inl ztyped)), (n_disk, .inl (E.2.1 0, 384, .inl zdisk))]) rfl rfl (by decide) (by decide) [11, 12, 0, 1, 2, 13, 3, 4, 5, 6, 7, 8, 9, 10] (WF := [(n0, .inr (6, [.ref n_tape, .int ztaped, .ref n_isThere, .ref n_size, .ref n_depth, .ref n_memory, .ref n_register, .ref n_mode, .ref n_pc, .ref n_base, .ref n_bound, .ref n_timer, .ref n_ranOut, .ref n_halted, .ref n_steps, .ref n_outs, .ref n_output, .ref n_waits, .ref n_typed, .ref n_disk, .ref n_wants, .int zat, .int zend, .int zline, .ref n_labelFrom, .ref n_labelSize, .ref n_labelAddress, .int zlabels, .int zfault, .int zfaultLine, .int zisTold, .int zaddress, .ref n_made, .int zmissing, .int zgood, .int zvalue, .int zvalueFrom, .int zvalueSize, .int zme])), (n_memory, .inl (E.2.1 0, 3072, .inl zmemory_11)), (n_register, .inl (E.2.1 0, 24, .inl zregister)), (n_mode, .inl (E.2.1 0, 3, .inl zmode)), (n_pc, .inl (E.2.1 0, 3, .inl zpc)), (n_base, .inl (E.2.1 0, 3, .inl zbase)), (n_bound, .inl (E.2.1 0, 3, .inl zbound)), (n_timer, .inl (E.2.1 0, 3, .inl ztimer)), (n_ranOut, .inl (E.2.1 3, 3, .inl zranOut)), (n_outs, .inl (E.2.1 0, 3, .inl zouts)), (n_output, .inl (E.2.1 0, 1500, .inl zoutput)), (n_waits, .inl (E.2.1 0, 3, .inl zwaits)), (n_typed, .inl (E.2.1 0, 300, .inl ztyped)), (n_disk, .inl (E.2.1 0, 384, .inl zdisk))]) rfl (by decide) ?_
        clear hP hD hS
        intro H locs hP hD hS
        clear hr
        refine lv_goto (tgt := 438) J.1 J.2.1 d_MD_rest_413 (by decide) ?_
        refine lv_iinc (v := (x11 + 1)) (lv' := [(11, .int (x11 + 1)), (0, .ref n0), (1, .int x1), (4, .int x4), (10, .int x10)]) J.1 J.2.1 d_MD_rest_438 hl (k := 4) rfl rfl (by decide) rfl ?_
        clear hl
        intro ls hl
        refine lv_goto (tgt := 378) J.1 J.2.1 d_MD_rest_441 (by decide) ?_
        exact ih _ _ _ _ _ _ _ _ _ _ _ _ _ _ _ _ _ _ _ _ _ _ _ _ _ _ _ _ _ _ _ _ _ _ _ h hP hD hS (lv_sub hl [1, 2, 3, 4, 0] rfl)
set_option maxHeartbeats 4000000 in
set_option maxRecDepth 100000 in
theorem ct_MD_rest (l : Launch) (E : jz_E) (n0 n_base n_bound n_depth n_disk n_halted n_isThere n_labelAddress n_labelFrom n_labelSize n_made n_memory n_mode n_output n_outs n_pc n_ranOut n_register n_size n_steps n_tape n_timer n_typed n_waits n_wants : Nat) (sz : Nat) (ztaped : Int32) (zat : Int32) (zend : Int32) (zline : Int32) (zlabels : Int32) (zfault : Int32) (zfaultLine : Int32) (zisTold : Int32) (zaddress : Int32) (zmissing : Int32) (zgood : Int32) (zvalue : Int32) (zvalueFrom : Int32) (zvalueSize : Int32) (zme : Int32) (zmemory : Nat → Int32) (zregister : Nat → Int32) (zmode : Nat → Int32) (zpc : Nat → Int32) (zbase : Nat → Int32) (zbound : Nat → Int32) (ztimer : Nat → Int32) (zranOut : Nat → Int32) (zouts : Nat → Int32) (zoutput : Nat → Int32) (zwaits : Nat → Int32) (ztyped : Nat → Int32) (zdisk : Nat → Int32) (p1 : Int32) (p2 : Int32) (p3 : Int32) (p4 : Int32) (o_zmemory : Nat → Int32) (o_zregister : Nat → Int32) (o_zmode : Nat → Int32) (o_zpc : Nat → Int32) (o_zbase : Nat → Int32) (o_zbound : Nat → Int32) (o_ztimer : Nat → Int32) (o_zranOut : Nat → Int32) (o_zouts : Nat → Int32) (o_zoutput : Nat → Int32) (o_zwaits : Nat → Int32) (o_ztyped : Nat → Int32) (o_zdisk : Nat → Int32)  (h : f_MD_rest zme zmemory zregister zmode zpc zbase zbound ztimer zranOut zouts zoutput zwaits ztyped zdisk p1 p2 p3 p4 = some (o_zmemory, o_zregister, o_zmode, o_zpc, o_zbase, o_zbound, o_ztimer, o_zranOut, o_zouts, o_zoutput, o_zwaits, o_ztyped, o_zdisk)) : CTv l E y_MD_rest c_MD_rest 12 none ({ frames := 1, cells := 0, slots := 0, locals := 22 }) [.ref n0, .int p1, .int p2, .int p3, .int p4] [(n0, .inr (6, [.ref n_tape, .int ztaped, .ref n_isThere, .ref n_size, .ref n_depth, .ref n_memory, .ref n_register, .ref n_mode, .ref n_pc, .ref n_base, .ref n_bound, .ref n_timer, .ref n_ranOut, .ref n_halted, .ref n_steps, .ref n_outs, .ref n_output, .ref n_waits, .ref n_typed, .ref n_disk, .ref n_wants, .int zat, .int zend, .int zline, .ref n_labelFrom, .ref n_labelSize, .ref n_labelAddress, .int zlabels, .int zfault, .int zfaultLine, .int zisTold, .int zaddress, .ref n_made, .int zmissing, .int zgood, .int zvalue, .int zvalueFrom, .int zvalueSize, .int zme])), (n_memory, .inl (E.2.1 0, 3072, .inl zmemory)), (n_register, .inl (E.2.1 0, 24, .inl zregister)), (n_mode, .inl (E.2.1 0, 3, .inl zmode)), (n_pc, .inl (E.2.1 0, 3, .inl zpc)), (n_base, .inl (E.2.1 0, 3, .inl zbase)), (n_bound, .inl (E.2.1 0, 3, .inl zbound)), (n_timer, .inl (E.2.1 0, 3, .inl ztimer)), (n_ranOut, .inl (E.2.1 3, 3, .inl zranOut)), (n_outs, .inl (E.2.1 0, 3, .inl zouts)), (n_output, .inl (E.2.1 0, 1500, .inl zoutput)), (n_waits, .inl (E.2.1 0, 3, .inl zwaits)), (n_typed, .inl (E.2.1 0, 300, .inl ztyped)), (n_disk, .inl (E.2.1 0, 384, .inl zdisk))] sz [(n0, .inr (6, [.ref n_tape, .int ztaped, .ref n_isThere, .ref n_size, .ref n_depth, .ref n_memory, .ref n_register, .ref n_mode, .ref n_pc, .ref n_base, .ref n_bound, .ref n_timer, .ref n_ranOut, .ref n_halted, .ref n_steps, .ref n_outs, .ref n_output, .ref n_waits, .ref n_typed, .ref n_disk, .ref n_wants, .int zat, .int zend, .int zline, .ref n_labelFrom, .ref n_labelSize, .ref n_labelAddress, .int zlabels, .int zfault, .int zfaultLine, .int zisTold, .int zaddress, .ref n_made, .int zmissing, .int zgood, .int zvalue, .int zvalueFrom, .int zvalueSize, .int zme])), (n_memory, .inl (E.2.1 0, 3072, .inl o_zmemory)), (n_register, .inl (E.2.1 0, 24, .inl o_zregister)), (n_mode, .inl (E.2.1 0, 3, .inl o_zmode)), (n_pc, .inl (E.2.1 0, 3, .inl o_zpc)), (n_base, .inl (E.2.1 0, 3, .inl o_zbase)), (n_bound, .inl (E.2.1 0, 3, .inl o_zbound)), (n_timer, .inl (E.2.1 0, 3, .inl o_ztimer)), (n_ranOut, .inl (E.2.1 3, 3, .inl o_zranOut)), (n_outs, .inl (E.2.1 0, 3, .inl o_zouts)), (n_output, .inl (E.2.1 0, 1500, .inl o_zoutput)), (n_waits, .inl (E.2.1 0, 3, .inl o_zwaits)), (n_typed, .inl (E.2.1 0, 300, .inl o_ztyped)), (n_disk, .inl (E.2.1 0, 384, .inl o_zdisk))] := by
  refine jw (by decide +kernel) (Nat.le_of_ble_eq_true rfl) ?_
  intro p e s m below meth c A ls J hJ hAe hsz hA hZ hP hD hl
  rw [← hAe]
  have hS : va_S A s.heap s.heap [] := va_S.rf
  have hl : lv_has ls 12 [(0, .ref n0), (1, .int p1), (2, .int p2), (3, .int p3), (4, .int p4)] := hl
  unfold f_MD_rest at h
  refine lv_bipush (v := 8) J.1 J.2.1 d_MD_rest_0 (by decide) ?_
  refine lv_aload_n J.1 J.2.1 d_MD_rest_2 rfl (lv_at hl 0 rfl) ?_
  refine jg J hJ hP 0 rfl rfl i_MD 38 (by decide) gf_MD_261 rfl d_MD_rest_3 ?_
  refine lv_imul J.1 J.2.1 d_MD_rest_6 ?_
  refine lv_iload_n J.1 J.2.1 d_MD_rest_7 rfl (lv_at hl 2 rfl) ?_
  refine lv_iadd J.1 J.2.1 d_MD_rest_8 ?_
  refine lv_istore (lv' := [(5, .int ((8 * zme) + p2)), (0, .ref n0), (1, .int p1), (2, .int p2), (3, .int p3), (4, .int p4)]) J.1 J.2.1 d_MD_rest_9 hl (by decide) rfl ?_
  clear hl
  intro ls hl
  refine lv_iload_n J.1 J.2.1 d_MD_rest_11 rfl (lv_at hl 2 rfl) ?_
  by_cases c_12 : (p1) = 17
  · replace h := g_t c_12 h
    refine lv_tableIn (off := 40) (tgt := 52) J.1 J.2.1 d_MD_rest_12 (by rw [c_12]; decide) (by rw [c_12]; decide) (by rw [c_12]; rfl) (by decide) ?_
    refine lv_aload_n J.1 J.2.1 d_MD_rest_52 rfl (lv_at hl 1 rfl) ?_
    refine lv_iload_n J.1 J.2.1 d_MD_rest_53 rfl (lv_at hl 4 rfl) ?_
    replace h := g_bd h
    obtain ⟨r_13, q_13, h⟩ := h
    have hq := ct_MD_get l E n0 n_base n_bound n_depth n_disk n_halted n_isThere n_labelAddress n_labelFrom n_labelSize n_made n_memory n_mode n_output n_outs n_pc n_ranOut n_register n_size n_steps n_tape n_timer n_typed n_waits n_wants s.heap.size ztaped zat zend zline zlabels zfault zfaultLine zisTold zaddress zmissing zgood zvalue zvalueFrom zvalueSize zme zmemory zbase p3 r_13 q_13
    have hr := jrunV (p := p) (e := e) (below := below) (R := ({ frames := 1, cells := 0, slots := 0, locals := 22 })) (cells := 0) (slots := 0) (As := [.int p3]) (rest := []) J hJ hA hZ hP hD hS hq [0, 1, 5] rfl (by decide) gl_MD_273 gi_MD_get gsel_MD_get gini_MD gc_MD_get hd_MD_get ⟨rfl, rfl, Nat.le_of_ble_eq_true rfl, Nat.le_of_ble_eq_true rfl⟩ rfl rfl hl.1 rfl rfl (Nat.le_of_ble_eq_true rfl) d_MD_rest_54 ⟨Nat.zero_le _, Nat.zero_le _⟩
    clear hq
    refine jk_i hr hA hP hD hS [0, 1, 5] [2, 3, 4, 6, 7, 8, 9, 10, 11, 12, 13] (WR := [(n_register, .inl (E.2.1 0, 24, .inl zregister)), (n_mode, .inl (E.2.1 0, 3, .inl zmode)), (n_pc, .inl (E.2.1 0, 3, .inl zpc)), (n_bound, .inl (E.2.1 0, 3, .inl zbound)), (n_timer, .inl (E.2.1 0, 3, .inl ztimer)), (n_ranOut, .inl (E.2.1 3, 3, .inl zranOut)), (n_outs, .inl (E.2.1 0, 3, .inl zouts)), (n_output, .inl (E.2.1 0, 1500, .inl zoutput)), (n_waits, .inl (E.2.1 0, 3, .inl zwaits)), (n_typed, .inl (E.2.1 0, 300, .inl ztyped)), (n_disk, .inl (E.2.1 0, 384, .inl zdisk))]) rfl rfl (by decide) (by decide) [11, 12, 0, 1, 2, 13, 3, 4, 5, 6, 7, 8, 9, 10] (WF := [(n0, .inr (6, [.ref n_tape, .int ztaped, .ref n_isThere, .ref n_size, .ref n_depth, .ref n_memory, .ref n_register, .ref n_mode, .ref n_pc, .ref n_base, .ref n_bound, .ref n_timer, .ref n_ranOut, .ref n_halted, .ref n_steps, .ref n_outs, .ref n_output, .ref n_waits, .ref n_typed, .ref n_disk, .ref n_wants, .int zat, .int zend, .int zline, .ref n_labelFrom, .ref n_labelSize, .ref n_labelAddress, .int zlabels, .int zfault, .int zfaultLine, .int zisTold, .int zaddress, .ref n_made, .int zmissing, .int zgood, .int zvalue, .int zvalueFrom, .int zvalueSize, .int zme])), (n_memory, .inl (E.2.1 0, 3072, .inl zmemory)), (n_register, .inl (E.2.1 0, 24, .inl zregister)), (n_mode, .inl (E.2.1 0, 3, .inl zmode)), (n_pc, .inl (E.2.1 0, 3, .inl zpc)), (n_base, .inl (E.2.1 0, 3, .inl zbase)), (n_bound, .inl (E.2.1 0, 3, .inl zbound)), (n_timer, .inl (E.2.1 0, 3, .inl ztimer)), (n_ranOut, .inl (E.2.1 3, 3, .inl zranOut)), (n_outs, .inl (E.2.1 0, 3, .inl zouts)), (n_output, .inl (E.2.1 0, 1500, .inl zoutput)), (n_waits, .inl (E.2.1 0, 3, .inl zwaits)), (n_typed, .inl (E.2.1 0, 300, .inl ztyped)), (n_disk, .inl (E.2.1 0, 384, .inl zdisk))]) rfl (by decide) ?_
    clear hP hD hS
    intro H locs hP hD hS
    clear hr
    refine lv_istore (lv' := [(6, .int r_13), (5, .int ((8 * zme) + p2)), (0, .ref n0), (1, .int p1), (2, .int p2), (3, .int p3), (4, .int p4)]) J.1 J.2.1 d_MD_rest_57 hl (by decide) rfl ?_
    clear hl
    intro ls hl
    refine lv_aload_n J.1 J.2.1 d_MD_rest_59 rfl (lv_at hl 2 rfl) ?_
    refine lv_iload_n J.1 J.2.1 d_MD_rest_60 rfl (lv_at hl 5 rfl) ?_
    refine lv_iconst (v := 1) J.1 J.2.1 d_MD_rest_61 (by decide) ?_
    refine lv_iadd J.1 J.2.1 d_MD_rest_62 ?_
    refine lv_ldc (v := 65536) J.1 J.2.1 J.2.2.2.2.1 (J.2.2.2.2.2.1 _ gk_MD_187) d_MD_rest_63 ?_
    refine lv_irem J.1 J.2.1 d_MD_rest_65 (by decide) ?_
    replace h := g_bd h
    obtain ⟨r_14, q_14, h⟩ := h
    have hq := ct_MD_get l E n0 n_base n_bound n_depth n_disk n_halted n_isThere n_labelAddress n_labelFrom n_labelSize n_made n_memory n_mode n_output n_outs n_pc n_ranOut n_register n_size n_steps n_tape n_timer n_typed n_waits n_wants H.size ztaped zat zend zline zlabels zfault zfaultLine zisTold zaddress zmissing zgood zvalue zvalueFrom zvalueSize zme zmemory zbase ((p3 + 1) - (p3 + 1) / 65536 * 65536) r_14 q_14
    have hr := jrunV (p := p) (e := e) (below := below) (R := ({ frames := 1, cells := 0, slots := 0, locals := 22 })) (cells := 0) (slots := 0) (As := [.int ((p3 + 1) - (p3 + 1) / 65536 * 65536)]) (rest := []) J hJ hA hZ hP hD hS hq [0, 1, 5] rfl (by decide) gl_MD_273 gi_MD_get gsel_MD_get gini_MD gc_MD_get hd_MD_get ⟨rfl, rfl, Nat.le_of_ble_eq_true rfl, Nat.le_of_ble_eq_true rfl⟩ rfl rfl hl.1 rfl rfl (Nat.le_of_ble_eq_true rfl) d_MD_rest_66 ⟨Nat.zero_le _, Nat.zero_le _⟩
    clear hq
    refine jk_i hr hA hP hD hS [0, 1, 5] [2, 3, 4, 6, 7, 8, 9, 10, 11, 12, 13] (WR := [(n_register, .inl (E.2.1 0, 24, .inl zregister)), (n_mode, .inl (E.2.1 0, 3, .inl zmode)), (n_pc, .inl (E.2.1 0, 3, .inl zpc)), (n_bound, .inl (E.2.1 0, 3, .inl zbound)), (n_timer, .inl (E.2.1 0, 3, .inl ztimer)), (n_ranOut, .inl (E.2.1 3, 3, .inl zranOut)), (n_outs, .inl (E.2.1 0, 3, .inl zouts)), (n_output, .inl (E.2.1 0, 1500, .inl zoutput)), (n_waits, .inl (E.2.1 0, 3, .inl zwaits)), (n_typed, .inl (E.2.1 0, 300, .inl ztyped)), (n_disk, .inl (E.2.1 0, 384, .inl zdisk))]) rfl rfl (by decide) (by decide) [11, 12, 0, 1, 2, 13, 3, 4, 5, 6, 7, 8, 9, 10] (WF := [(n0, .inr (6, [.ref n_tape, .int ztaped, .ref n_isThere, .ref n_size, .ref n_depth, .ref n_memory, .ref n_register, .ref n_mode, .ref n_pc, .ref n_base, .ref n_bound, .ref n_timer, .ref n_ranOut, .ref n_halted, .ref n_steps, .ref n_outs, .ref n_output, .ref n_waits, .ref n_typed, .ref n_disk, .ref n_wants, .int zat, .int zend, .int zline, .ref n_labelFrom, .ref n_labelSize, .ref n_labelAddress, .int zlabels, .int zfault, .int zfaultLine, .int zisTold, .int zaddress, .ref n_made, .int zmissing, .int zgood, .int zvalue, .int zvalueFrom, .int zvalueSize, .int zme])), (n_memory, .inl (E.2.1 0, 3072, .inl zmemory)), (n_register, .inl (E.2.1 0, 24, .inl zregister)), (n_mode, .inl (E.2.1 0, 3, .inl zmode)), (n_pc, .inl (E.2.1 0, 3, .inl zpc)), (n_base, .inl (E.2.1 0, 3, .inl zbase)), (n_bound, .inl (E.2.1 0, 3, .inl zbound)), (n_timer, .inl (E.2.1 0, 3, .inl ztimer)), (n_ranOut, .inl (E.2.1 3, 3, .inl zranOut)), (n_outs, .inl (E.2.1 0, 3, .inl zouts)), (n_output, .inl (E.2.1 0, 1500, .inl zoutput)), (n_waits, .inl (E.2.1 0, 3, .inl zwaits)), (n_typed, .inl (E.2.1 0, 300, .inl ztyped)), (n_disk, .inl (E.2.1 0, 384, .inl zdisk))]) rfl (by decide) ?_
    clear hP hD hS
    intro H locs hP hD hS
    clear hr
    refine lv_istore (lv' := [(7, .int r_14), (6, .int r_13), (5, .int ((8 * zme) + p2)), (0, .ref n0), (1, .int p1), (2, .int p2), (3, .int p3), (4, .int p4)]) J.1 J.2.1 d_MD_rest_69 hl (by decide) rfl ?_
    clear hl
    intro ls hl
    refine lv_aload_n J.1 J.2.1 d_MD_rest_71 rfl (lv_at hl 3 rfl) ?_
    refine lv_iload_n J.1 J.2.1 d_MD_rest_72 rfl (lv_at hl 6 rfl) ?_
    refine lv_iconst (v := 2) J.1 J.2.1 d_MD_rest_73 (by decide) ?_
    refine lv_iadd J.1 J.2.1 d_MD_rest_74 ?_
    refine lv_ldc (v := 65536) J.1 J.2.1 J.2.2.2.2.1 (J.2.2.2.2.2.1 _ gk_MD_187) d_MD_rest_75 ?_
    refine lv_irem J.1 J.2.1 d_MD_rest_77 (by decide) ?_
    replace h := g_bd h
    obtain ⟨r_15, q_15, h⟩ := h
    have hq := ct_MD_get l E n0 n_base n_bound n_depth n_disk n_halted n_isThere n_labelAddress n_labelFrom n_labelSize n_made n_memory n_mode n_output n_outs n_pc n_ranOut n_register n_size n_steps n_tape n_timer n_typed n_waits n_wants H.size ztaped zat zend zline zlabels zfault zfaultLine zisTold zaddress zmissing zgood zvalue zvalueFrom zvalueSize zme zmemory zbase ((p3 + 2) - (p3 + 2) / 65536 * 65536) r_15 q_15
    have hr := jrunV (p := p) (e := e) (below := below) (R := ({ frames := 1, cells := 0, slots := 0, locals := 22 })) (cells := 0) (slots := 0) (As := [.int ((p3 + 2) - (p3 + 2) / 65536 * 65536)]) (rest := []) J hJ hA hZ hP hD hS hq [0, 1, 5] rfl (by decide) gl_MD_273 gi_MD_get gsel_MD_get gini_MD gc_MD_get hd_MD_get ⟨rfl, rfl, Nat.le_of_ble_eq_true rfl, Nat.le_of_ble_eq_true rfl⟩ rfl rfl hl.1 rfl rfl (Nat.le_of_ble_eq_true rfl) d_MD_rest_78 ⟨Nat.zero_le _, Nat.zero_le _⟩
    clear hq
    refine jk_i hr hA hP hD hS [0, 1, 5] [2, 3, 4, 6, 7, 8, 9, 10, 11, 12, 13] (WR := [(n_register, .inl (E.2.1 0, 24, .inl zregister)), (n_mode, .inl (E.2.1 0, 3, .inl zmode)), (n_pc, .inl (E.2.1 0, 3, .inl zpc)), (n_bound, .inl (E.2.1 0, 3, .inl zbound)), (n_timer, .inl (E.2.1 0, 3, .inl ztimer)), (n_ranOut, .inl (E.2.1 3, 3, .inl zranOut)), (n_outs, .inl (E.2.1 0, 3, .inl zouts)), (n_output, .inl (E.2.1 0, 1500, .inl zoutput)), (n_waits, .inl (E.2.1 0, 3, .inl zwaits)), (n_typed, .inl (E.2.1 0, 300, .inl ztyped)), (n_disk, .inl (E.2.1 0, 384, .inl zdisk))]) rfl rfl (by decide) (by decide) [11, 12, 0, 1, 2, 13, 3, 4, 5, 6, 7, 8, 9, 10] (WF := [(n0, .inr (6, [.ref n_tape, .int ztaped, .ref n_isThere, .ref n_size, .ref n_depth, .ref n_memory, .ref n_register, .ref n_mode, .ref n_pc, .ref n_base, .ref n_bound, .ref n_timer, .ref n_ranOut, .ref n_halted, .ref n_steps, .ref n_outs, .ref n_output, .ref n_waits, .ref n_typed, .ref n_disk, .ref n_wants, .int zat, .int zend, .int zline, .ref n_labelFrom, .ref n_labelSize, .ref n_labelAddress, .int zlabels, .int zfault, .int zfaultLine, .int zisTold, .int zaddress, .ref n_made, .int zmissing, .int zgood, .int zvalue, .int zvalueFrom, .int zvalueSize, .int zme])), (n_memory, .inl (E.2.1 0, 3072, .inl zmemory)), (n_register, .inl (E.2.1 0, 24, .inl zregister)), (n_mode, .inl (E.2.1 0, 3, .inl zmode)), (n_pc, .inl (E.2.1 0, 3, .inl zpc)), (n_base, .inl (E.2.1 0, 3, .inl zbase)), (n_bound, .inl (E.2.1 0, 3, .inl zbound)), (n_timer, .inl (E.2.1 0, 3, .inl ztimer)), (n_ranOut, .inl (E.2.1 3, 3, .inl zranOut)), (n_outs, .inl (E.2.1 0, 3, .inl zouts)), (n_output, .inl (E.2.1 0, 1500, .inl zoutput)), (n_waits, .inl (E.2.1 0, 3, .inl zwaits)), (n_typed, .inl (E.2.1 0, 300, .inl ztyped)), (n_disk, .inl (E.2.1 0, 384, .inl zdisk))]) rfl (by decide) ?_
    clear hP hD hS
    intro H locs hP hD hS
    clear hr
    refine lv_istore (lv' := [(8, .int r_15), (7, .int r_14), (6, .int r_13), (5, .int ((8 * zme) + p2)), (0, .ref n0), (1, .int p1), (2, .int p2), (3, .int p3), (4, .int p4)]) J.1 J.2.1 d_MD_rest_81 hl (by decide) rfl ?_
    clear hl
    intro ls hl
    refine lv_aload_n J.1 J.2.1 d_MD_rest_83 rfl (lv_at hl 4 rfl) ?_
    refine lv_iload_n J.1 J.2.1 d_MD_rest_84 rfl (lv_at hl 7 rfl) ?_
    refine lv_iconst (v := 3) J.1 J.2.1 d_MD_rest_85 (by decide) ?_
    refine lv_iadd J.1 J.2.1 d_MD_rest_86 ?_
    refine lv_ldc (v := 65536) J.1 J.2.1 J.2.2.2.2.1 (J.2.2.2.2.2.1 _ gk_MD_187) d_MD_rest_87 ?_
    refine lv_irem J.1 J.2.1 d_MD_rest_89 (by decide) ?_
    replace h := g_bd h
    obtain ⟨r_16, q_16, h⟩ := h
    have hq := ct_MD_get l E n0 n_base n_bound n_depth n_disk n_halted n_isThere n_labelAddress n_labelFrom n_labelSize n_made n_memory n_mode n_output n_outs n_pc n_ranOut n_register n_size n_steps n_tape n_timer n_typed n_waits n_wants H.size ztaped zat zend zline zlabels zfault zfaultLine zisTold zaddress zmissing zgood zvalue zvalueFrom zvalueSize zme zmemory zbase ((p3 + 3) - (p3 + 3) / 65536 * 65536) r_16 q_16
    have hr := jrunV (p := p) (e := e) (below := below) (R := ({ frames := 1, cells := 0, slots := 0, locals := 22 })) (cells := 0) (slots := 0) (As := [.int ((p3 + 3) - (p3 + 3) / 65536 * 65536)]) (rest := []) J hJ hA hZ hP hD hS hq [0, 1, 5] rfl (by decide) gl_MD_273 gi_MD_get gsel_MD_get gini_MD gc_MD_get hd_MD_get ⟨rfl, rfl, Nat.le_of_ble_eq_true rfl, Nat.le_of_ble_eq_true rfl⟩ rfl rfl hl.1 rfl rfl (Nat.le_of_ble_eq_true rfl) d_MD_rest_90 ⟨Nat.zero_le _, Nat.zero_le _⟩
    clear hq
    refine jk_i hr hA hP hD hS [0, 1, 5] [2, 3, 4, 6, 7, 8, 9, 10, 11, 12, 13] (WR := [(n_register, .inl (E.2.1 0, 24, .inl zregister)), (n_mode, .inl (E.2.1 0, 3, .inl zmode)), (n_pc, .inl (E.2.1 0, 3, .inl zpc)), (n_bound, .inl (E.2.1 0, 3, .inl zbound)), (n_timer, .inl (E.2.1 0, 3, .inl ztimer)), (n_ranOut, .inl (E.2.1 3, 3, .inl zranOut)), (n_outs, .inl (E.2.1 0, 3, .inl zouts)), (n_output, .inl (E.2.1 0, 1500, .inl zoutput)), (n_waits, .inl (E.2.1 0, 3, .inl zwaits)), (n_typed, .inl (E.2.1 0, 300, .inl ztyped)), (n_disk, .inl (E.2.1 0, 384, .inl zdisk))]) rfl rfl (by decide) (by decide) [11, 12, 0, 1, 2, 13, 3, 4, 5, 6, 7, 8, 9, 10] (WF := [(n0, .inr (6, [.ref n_tape, .int ztaped, .ref n_isThere, .ref n_size, .ref n_depth, .ref n_memory, .ref n_register, .ref n_mode, .ref n_pc, .ref n_base, .ref n_bound, .ref n_timer, .ref n_ranOut, .ref n_halted, .ref n_steps, .ref n_outs, .ref n_output, .ref n_waits, .ref n_typed, .ref n_disk, .ref n_wants, .int zat, .int zend, .int zline, .ref n_labelFrom, .ref n_labelSize, .ref n_labelAddress, .int zlabels, .int zfault, .int zfaultLine, .int zisTold, .int zaddress, .ref n_made, .int zmissing, .int zgood, .int zvalue, .int zvalueFrom, .int zvalueSize, .int zme])), (n_memory, .inl (E.2.1 0, 3072, .inl zmemory)), (n_register, .inl (E.2.1 0, 24, .inl zregister)), (n_mode, .inl (E.2.1 0, 3, .inl zmode)), (n_pc, .inl (E.2.1 0, 3, .inl zpc)), (n_base, .inl (E.2.1 0, 3, .inl zbase)), (n_bound, .inl (E.2.1 0, 3, .inl zbound)), (n_timer, .inl (E.2.1 0, 3, .inl ztimer)), (n_ranOut, .inl (E.2.1 3, 3, .inl zranOut)), (n_outs, .inl (E.2.1 0, 3, .inl zouts)), (n_output, .inl (E.2.1 0, 1500, .inl zoutput)), (n_waits, .inl (E.2.1 0, 3, .inl zwaits)), (n_typed, .inl (E.2.1 0, 300, .inl ztyped)), (n_disk, .inl (E.2.1 0, 384, .inl zdisk))]) rfl (by decide) ?_
    clear hP hD hS
    intro H locs hP hD hS
    clear hr
    refine lv_istore (lv' := [(9, .int r_16), (8, .int r_15), (7, .int r_14), (6, .int r_13), (5, .int ((8 * zme) + p2)), (0, .ref n0), (1, .int p1), (2, .int p2), (3, .int p3), (4, .int p4)]) J.1 J.2.1 d_MD_rest_93 hl (by decide) rfl ?_
    clear hl
    intro ls hl
    refine lv_aload_n J.1 J.2.1 d_MD_rest_95 rfl (lv_at hl 5 rfl) ?_
    refine jg J hJ hP 0 rfl rfl i_MD 7 (by decide) gf_MD_38 rfl d_MD_rest_96 ?_
    refine lv_aload_n J.1 J.2.1 d_MD_rest_99 rfl (lv_at hl 5 rfl) ?_
    refine jg J hJ hP 0 rfl rfl i_MD 38 (by decide) gf_MD_261 rfl d_MD_rest_100 ?_
    refine lv_iload J.1 J.2.1 d_MD_rest_103 (lv_at hl 3 rfl) ?_
    refine lv_if_ne (tgt := 112) J.1 J.2.1 d_MD_rest_105 (by decide) (fun c_17 => ?_) (fun c_17 => ?_)
    · replace h := g_f c_17 h
      refine lv_iconst (v := 1) J.1 J.2.1 d_MD_rest_112 (by decide) ?_
      replace h := g_ck h
      obtain ⟨k_18, h⟩ := h
      refine jsi J hJ hP hD hS 3 rfl k_18 d_MD_rest_113 (WS' := [(n0, .inr (6, [.ref n_tape, .int ztaped, .ref n_isThere, .ref n_size, .ref n_depth, .ref n_memory, .ref n_register, .ref n_mode, .ref n_pc, .ref n_base, .ref n_bound, .ref n_timer, .ref n_ranOut, .ref n_halted, .ref n_steps, .ref n_outs, .ref n_output, .ref n_waits, .ref n_typed, .ref n_disk, .ref n_wants, .int zat, .int zend, .int zline, .ref n_labelFrom, .ref n_labelSize, .ref n_labelAddress, .int zlabels, .int zfault, .int zfaultLine, .int zisTold, .int zaddress, .ref n_made, .int zmissing, .int zgood, .int zvalue, .int zvalueFrom, .int zvalueSize, .int zme])), (n_memory, .inl (E.2.1 0, 3072, .inl zmemory)), (n_register, .inl (E.2.1 0, 24, .inl zregister)), (n_mode, .inl (E.2.1 0, 3, .inl (upd zmode zme.toNatClampNeg 1))), (n_pc, .inl (E.2.1 0, 3, .inl zpc)), (n_base, .inl (E.2.1 0, 3, .inl zbase)), (n_bound, .inl (E.2.1 0, 3, .inl zbound)), (n_timer, .inl (E.2.1 0, 3, .inl ztimer)), (n_ranOut, .inl (E.2.1 3, 3, .inl zranOut)), (n_outs, .inl (E.2.1 0, 3, .inl zouts)), (n_output, .inl (E.2.1 0, 1500, .inl zoutput)), (n_waits, .inl (E.2.1 0, 3, .inl zwaits)), (n_typed, .inl (E.2.1 0, 300, .inl ztyped)), (n_disk, .inl (E.2.1 0, 384, .inl zdisk))]) rfl ?_
      clear hP hD hS
      intro H locs hP hD hS
      exact kb_MD_rest_114 J hJ hA hZ _ _ _ _ _ _ _ _ _ _ _ _ _ _ _ _ _ _ _ _ _ _ _ _ _ _ _ _ _ _ _ _ _ _ h hP hD hS (lv_sub hl [5, 2, 1, 0] rfl)
    · replace h := g_t c_17 h
      refine lv_iconst (v := 0) J.1 J.2.1 d_MD_rest_108 (by decide) ?_
      refine lv_goto (tgt := 113) J.1 J.2.1 d_MD_rest_109 (by decide) ?_
      replace h := g_ck h
      obtain ⟨k_19, h⟩ := h
      refine jsi J hJ hP hD hS 3 rfl k_19 d_MD_rest_113 (WS' := [(n0, .inr (6, [.ref n_tape, .int ztaped, .ref n_isThere, .ref n_size, .ref n_depth, .ref n_memory, .ref n_register, .ref n_mode, .ref n_pc, .ref n_base, .ref n_bound, .ref n_timer, .ref n_ranOut, .ref n_halted, .ref n_steps, .ref n_outs, .ref n_output, .ref n_waits, .ref n_typed, .ref n_disk, .ref n_wants, .int zat, .int zend, .int zline, .ref n_labelFrom, .ref n_labelSize, .ref n_labelAddress, .int zlabels, .int zfault, .int zfaultLine, .int zisTold, .int zaddress, .ref n_made, .int zmissing, .int zgood, .int zvalue, .int zvalueFrom, .int zvalueSize, .int zme])), (n_memory, .inl (E.2.1 0, 3072, .inl zmemory)), (n_register, .inl (E.2.1 0, 24, .inl zregister)), (n_mode, .inl (E.2.1 0, 3, .inl (upd zmode zme.toNatClampNeg 0))), (n_pc, .inl (E.2.1 0, 3, .inl zpc)), (n_base, .inl (E.2.1 0, 3, .inl zbase)), (n_bound, .inl (E.2.1 0, 3, .inl zbound)), (n_timer, .inl (E.2.1 0, 3, .inl ztimer)), (n_ranOut, .inl (E.2.1 3, 3, .inl zranOut)), (n_outs, .inl (E.2.1 0, 3, .inl zouts)), (n_output, .inl (E.2.1 0, 1500, .inl zoutput)), (n_waits, .inl (E.2.1 0, 3, .inl zwaits)), (n_typed, .inl (E.2.1 0, 300, .inl ztyped)), (n_disk, .inl (E.2.1 0, 384, .inl zdisk))]) rfl ?_
      clear hP hD hS
      intro H locs hP hD hS
      exact kb_MD_rest_114 J hJ hA hZ _ _ _ _ _ _ _ _ _ _ _ _ _ _ _ _ _ _ _ _ _ _ _ _ _ _ _ _ _ _ _ _ _ _ h hP hD hS (lv_sub hl [5, 2, 1, 0] rfl)
  replace h := g_f c_12 h
  by_cases c_20 : (p1) = 18
  · replace h := g_t c_20 h
    refine lv_tableIn (off := 138) (tgt := 150) J.1 J.2.1 d_MD_rest_12 (by rw [c_20]; decide) (by rw [c_20]; decide) (by rw [c_20]; rfl) (by decide) ?_
    refine lv_aload_n J.1 J.2.1 d_MD_rest_150 rfl (lv_at hl 1 rfl) ?_
    refine lv_iload_n J.1 J.2.1 d_MD_rest_151 rfl (lv_at hl 4 rfl) ?_
    refine lv_aload_n J.1 J.2.1 d_MD_rest_152 rfl (lv_at hl 1 rfl) ?_
    refine jg J hJ hP 0 rfl rfl i_MD 7 (by decide) gf_MD_38 rfl d_MD_rest_153 ?_
    refine lv_aload_n J.1 J.2.1 d_MD_rest_156 rfl (lv_at hl 1 rfl) ?_
    refine jg J hJ hP 0 rfl rfl i_MD 38 (by decide) gf_MD_261 rfl d_MD_rest_157 ?_
    replace h := g_ck h
    obtain ⟨k_21, h⟩ := h
    refine jai J hJ hP 3 rfl k_21 d_MD_rest_160 ?_
    replace h := g_bd h
    obtain ⟨zmemory_22, q_22, h⟩ := h
    have hq := ct_MD_set l E n0 n_base n_bound n_depth n_disk n_halted n_isThere n_labelAddress n_labelFrom n_labelSize n_made n_memory n_mode n_output n_outs n_pc n_ranOut n_register n_size n_steps n_tape n_timer n_typed n_waits n_wants s.heap.size ztaped zat zend zline zlabels zfault zfaultLine zisTold zaddress zmissing zgood zvalue zvalueFrom zvalueSize zme zmemory zbase p3 (zmode zme.toNatClampNeg) zmemory_22 q_22
    have hr := jrunV (p := p) (e := e) (below := below) (R := ({ frames := 1, cells := 0, slots := 0, locals := 22 })) (cells := 0) (slots := 0) (As := [.int p3, .int (zmode zme.toNatClampNeg)]) (rest := []) J hJ hA hZ hP hD hS hq [0, 1, 5] rfl (by decide) gl_MD_280 gi_MD_set gsel_MD_set gini_MD gc_MD_set hd_MD_set ⟨rfl, rfl, Nat.le_of_ble_eq_true rfl, Nat.le_of_ble_eq_true rfl⟩ rfl rfl hl.1 rfl rfl (Nat.le_of_ble_eq_true rfl) d_MD_rest_161 ⟨Nat.zero_le _, Nat.zero_le _⟩
    clear hq
    refine jk_v hr hA hP hD hS [0, 1, 5] [2, 3, 4, 6, 7, 8, 9, 10, 11, 12, 13] (WR := [(n_register, .inl (E.2.1 0, 24, .inl zregister)), (n_mode, .inl (E.2.1 0, 3, .inl zmode)), (n_pc, .inl (E.2.1 0, 3, .inl zpc)), (n_bound, .inl (E.2.1 0, 3, .inl zbound)), (n_timer, .inl (E.2.1 0, 3, .inl ztimer)), (n_ranOut, .inl (E.2.1 3, 3, .inl zranOut)), (n_outs, .inl (E.2.1 0, 3, .inl zouts)), (n_output, .inl (E.2.1 0, 1500, .inl zoutput)), (n_waits, .inl (E.2.1 0, 3, .inl zwaits)), (n_typed, .inl (E.2.1 0, 300, .inl ztyped)), (n_disk, .inl (E.2.1 0, 384, .inl zdisk))]) rfl rfl (by decide) (by decide) [11, 12, 0, 1, 2, 13, 3, 4, 5, 6, 7, 8, 9, 10] (WF := [(n0, .inr (6, [.ref n_tape, .int ztaped, .ref n_isThere, .ref n_size, .ref n_depth, .ref n_memory, .ref n_register, .ref n_mode, .ref n_pc, .ref n_base, .ref n_bound, .ref n_timer, .ref n_ranOut, .ref n_halted, .ref n_steps, .ref n_outs, .ref n_output, .ref n_waits, .ref n_typed, .ref n_disk, .ref n_wants, .int zat, .int zend, .int zline, .ref n_labelFrom, .ref n_labelSize, .ref n_labelAddress, .int zlabels, .int zfault, .int zfaultLine, .int zisTold, .int zaddress, .ref n_made, .int zmissing, .int zgood, .int zvalue, .int zvalueFrom, .int zvalueSize, .int zme])), (n_memory, .inl (E.2.1 0, 3072, .inl zmemory_22)), (n_register, .inl (E.2.1 0, 24, .inl zregister)), (n_mode, .inl (E.2.1 0, 3, .inl zmode)), (n_pc, .inl (E.2.1 0, 3, .inl zpc)), (n_base, .inl (E.2.1 0, 3, .inl zbase)), (n_bound, .inl (E.2.1 0, 3, .inl zbound)), (n_timer, .inl (E.2.1 0, 3, .inl ztimer)), (n_ranOut, .inl (E.2.1 3, 3, .inl zranOut)), (n_outs, .inl (E.2.1 0, 3, .inl zouts)), (n_output, .inl (E.2.1 0, 1500, .inl zoutput)), (n_waits, .inl (E.2.1 0, 3, .inl zwaits)), (n_typed, .inl (E.2.1 0, 300, .inl ztyped)), (n_disk, .inl (E.2.1 0, 384, .inl zdisk))]) rfl (by decide) ?_
    clear hP hD hS
    intro H locs hP hD hS
    clear hr
    refine lv_aload_n J.1 J.2.1 d_MD_rest_164 rfl (lv_at hl 1 rfl) ?_
    refine lv_iload_n J.1 J.2.1 d_MD_rest_165 rfl (lv_at hl 4 rfl) ?_
    refine lv_iconst (v := 1) J.1 J.2.1 d_MD_rest_166 (by decide) ?_
    refine lv_iadd J.1 J.2.1 d_MD_rest_167 ?_
    refine lv_ldc (v := 65536) J.1 J.2.1 J.2.2.2.2.1 (J.2.2.2.2.2.1 _ gk_MD_187) d_MD_rest_168 ?_
    refine lv_irem J.1 J.2.1 d_MD_rest_170 (by decide) ?_
    refine lv_aload_n J.1 J.2.1 d_MD_rest_171 rfl (lv_at hl 1 rfl) ?_
    refine jg J hJ hP 0 rfl rfl i_MD 8 (by decide) gf_MD_41 rfl d_MD_rest_172 ?_
    refine lv_aload_n J.1 J.2.1 d_MD_rest_175 rfl (lv_at hl 1 rfl) ?_
    refine jg J hJ hP 0 rfl rfl i_MD 38 (by decide) gf_MD_261 rfl d_MD_rest_176 ?_
    replace h := g_ck h
    obtain ⟨k_23, h⟩ := h
    refine jai J hJ hP 4 rfl k_23 d_MD_rest_179 ?_
    replace h := g_bd h
    obtain ⟨zmemory_24, q_24, h⟩ := h
    have hq := ct_MD_set l E n0 n_base n_bound n_depth n_disk n_halted n_isThere n_labelAddress n_labelFrom n_labelSize n_made n_memory n_mode n_output n_outs n_pc n_ranOut n_register n_size n_steps n_tape n_timer n_typed n_waits n_wants H.size ztaped zat zend zline zlabels zfault zfaultLine zisTold zaddress zmissing zgood zvalue zvalueFrom zvalueSize zme zmemory_22 zbase ((p3 + 1) - (p3 + 1) / 65536 * 65536) (zpc zme.toNatClampNeg) zmemory_24 q_24
    have hr := jrunV (p := p) (e := e) (below := below) (R := ({ frames := 1, cells := 0, slots := 0, locals := 22 })) (cells := 0) (slots := 0) (As := [.int ((p3 + 1) - (p3 + 1) / 65536 * 65536), .int (zpc zme.toNatClampNeg)]) (rest := []) J hJ hA hZ hP hD hS hq [0, 1, 5] rfl (by decide) gl_MD_280 gi_MD_set gsel_MD_set gini_MD gc_MD_set hd_MD_set ⟨rfl, rfl, Nat.le_of_ble_eq_true rfl, Nat.le_of_ble_eq_true rfl⟩ rfl rfl hl.1 rfl rfl (Nat.le_of_ble_eq_true rfl) d_MD_rest_180 ⟨Nat.zero_le _, Nat.zero_le _⟩
    clear hq
    refine jk_v hr hA hP hD hS [0, 1, 5] [2, 3, 4, 6, 7, 8, 9, 10, 11, 12, 13] (WR := [(n_register, .inl (E.2.1 0, 24, .inl zregister)), (n_mode, .inl (E.2.1 0, 3, .inl zmode)), (n_pc, .inl (E.2.1 0, 3, .inl zpc)), (n_bound, .inl (E.2.1 0, 3, .inl zbound)), (n_timer, .inl (E.2.1 0, 3, .inl ztimer)), (n_ranOut, .inl (E.2.1 3, 3, .inl zranOut)), (n_outs, .inl (E.2.1 0, 3, .inl zouts)), (n_output, .inl (E.2.1 0, 1500, .inl zoutput)), (n_waits, .inl (E.2.1 0, 3, .inl zwaits)), (n_typed, .inl (E.2.1 0, 300, .inl ztyped)), (n_disk, .inl (E.2.1 0, 384, .inl zdisk))]) rfl rfl (by decide) (by decide) [11, 12, 0, 1, 2, 13, 3, 4, 5, 6, 7, 8, 9, 10] (WF := [(n0, .inr (6, [.ref n_tape, .int ztaped, .ref n_isThere, .ref n_size, .ref n_depth, .ref n_memory, .ref n_register, .ref n_mode, .ref n_pc, .ref n_base, .ref n_bound, .ref n_timer, .ref n_ranOut, .ref n_halted, .ref n_steps, .ref n_outs, .ref n_output, .ref n_waits, .ref n_typed, .ref n_disk, .ref n_wants, .int zat, .int zend, .int zline, .ref n_labelFrom, .ref n_labelSize, .ref n_labelAddress, .int zlabels, .int zfault, .int zfaultLine, .int zisTold, .int zaddress, .ref n_made, .int zmissing, .int zgood, .int zvalue, .int zvalueFrom, .int zvalueSize, .int zme])), (n_memory, .inl (E.2.1 0, 3072, .inl zmemory_24)), (n_register, .inl (E.2.1 0, 24, .inl zregister)), (n_mode, .inl (E.2.1 0, 3, .inl zmode)), (n_pc, .inl (E.2.1 0, 3, .inl zpc)), (n_base, .inl (E.2.1 0, 3, .inl zbase)), (n_bound, .inl (E.2.1 0, 3, .inl zbound)), (n_timer, .inl (E.2.1 0, 3, .inl ztimer)), (n_ranOut, .inl (E.2.1 3, 3, .inl zranOut)), (n_outs, .inl (E.2.1 0, 3, .inl zouts)), (n_output, .inl (E.2.1 0, 1500, .inl zoutput)), (n_waits, .inl (E.2.1 0, 3, .inl zwaits)), (n_typed, .inl (E.2.1 0, 300, .inl ztyped)), (n_disk, .inl (E.2.1 0, 384, .inl zdisk))]) rfl (by decide) ?_
    clear hP hD hS
    intro H locs hP hD hS
    clear hr
    refine lv_aload_n J.1 J.2.1 d_MD_rest_183 rfl (lv_at hl 1 rfl) ?_
    refine lv_iload_n J.1 J.2.1 d_MD_rest_184 rfl (lv_at hl 4 rfl) ?_
    refine lv_iconst (v := 2) J.1 J.2.1 d_MD_rest_185 (by decide) ?_
    refine lv_iadd J.1 J.2.1 d_MD_rest_186 ?_
    refine lv_ldc (v := 65536) J.1 J.2.1 J.2.2.2.2.1 (J.2.2.2.2.2.1 _ gk_MD_187) d_MD_rest_187 ?_
    refine lv_irem J.1 J.2.1 d_MD_rest_189 (by decide) ?_
    refine lv_aload_n J.1 J.2.1 d_MD_rest_190 rfl (lv_at hl 1 rfl) ?_
    refine jg J hJ hP 0 rfl rfl i_MD 9 (by decide) gf_MD_44 rfl d_MD_rest_191 ?_
    refine lv_aload_n J.1 J.2.1 d_MD_rest_194 rfl (lv_at hl 1 rfl) ?_
    refine jg J hJ hP 0 rfl rfl i_MD 38 (by decide) gf_MD_261 rfl d_MD_rest_195 ?_
    replace h := g_ck h
    obtain ⟨k_25, h⟩ := h
    refine jai J hJ hP 5 rfl k_25 d_MD_rest_198 ?_
    replace h := g_bd h
    obtain ⟨zmemory_26, q_26, h⟩ := h
    have hq := ct_MD_set l E n0 n_base n_bound n_depth n_disk n_halted n_isThere n_labelAddress n_labelFrom n_labelSize n_made n_memory n_mode n_output n_outs n_pc n_ranOut n_register n_size n_steps n_tape n_timer n_typed n_waits n_wants H.size ztaped zat zend zline zlabels zfault zfaultLine zisTold zaddress zmissing zgood zvalue zvalueFrom zvalueSize zme zmemory_24 zbase ((p3 + 2) - (p3 + 2) / 65536 * 65536) (zbase zme.toNatClampNeg) zmemory_26 q_26
    have hr := jrunV (p := p) (e := e) (below := below) (R := ({ frames := 1, cells := 0, slots := 0, locals := 22 })) (cells := 0) (slots := 0) (As := [.int ((p3 + 2) - (p3 + 2) / 65536 * 65536), .int (zbase zme.toNatClampNeg)]) (rest := []) J hJ hA hZ hP hD hS hq [0, 1, 5] rfl (by decide) gl_MD_280 gi_MD_set gsel_MD_set gini_MD gc_MD_set hd_MD_set ⟨rfl, rfl, Nat.le_of_ble_eq_true rfl, Nat.le_of_ble_eq_true rfl⟩ rfl rfl hl.1 rfl rfl (Nat.le_of_ble_eq_true rfl) d_MD_rest_199 ⟨Nat.zero_le _, Nat.zero_le _⟩
    clear hq
    refine jk_v hr hA hP hD hS [0, 1, 5] [2, 3, 4, 6, 7, 8, 9, 10, 11, 12, 13] (WR := [(n_register, .inl (E.2.1 0, 24, .inl zregister)), (n_mode, .inl (E.2.1 0, 3, .inl zmode)), (n_pc, .inl (E.2.1 0, 3, .inl zpc)), (n_bound, .inl (E.2.1 0, 3, .inl zbound)), (n_timer, .inl (E.2.1 0, 3, .inl ztimer)), (n_ranOut, .inl (E.2.1 3, 3, .inl zranOut)), (n_outs, .inl (E.2.1 0, 3, .inl zouts)), (n_output, .inl (E.2.1 0, 1500, .inl zoutput)), (n_waits, .inl (E.2.1 0, 3, .inl zwaits)), (n_typed, .inl (E.2.1 0, 300, .inl ztyped)), (n_disk, .inl (E.2.1 0, 384, .inl zdisk))]) rfl rfl (by decide) (by decide) [11, 12, 0, 1, 2, 13, 3, 4, 5, 6, 7, 8, 9, 10] (WF := [(n0, .inr (6, [.ref n_tape, .int ztaped, .ref n_isThere, .ref n_size, .ref n_depth, .ref n_memory, .ref n_register, .ref n_mode, .ref n_pc, .ref n_base, .ref n_bound, .ref n_timer, .ref n_ranOut, .ref n_halted, .ref n_steps, .ref n_outs, .ref n_output, .ref n_waits, .ref n_typed, .ref n_disk, .ref n_wants, .int zat, .int zend, .int zline, .ref n_labelFrom, .ref n_labelSize, .ref n_labelAddress, .int zlabels, .int zfault, .int zfaultLine, .int zisTold, .int zaddress, .ref n_made, .int zmissing, .int zgood, .int zvalue, .int zvalueFrom, .int zvalueSize, .int zme])), (n_memory, .inl (E.2.1 0, 3072, .inl zmemory_26)), (n_register, .inl (E.2.1 0, 24, .inl zregister)), (n_mode, .inl (E.2.1 0, 3, .inl zmode)), (n_pc, .inl (E.2.1 0, 3, .inl zpc)), (n_base, .inl (E.2.1 0, 3, .inl zbase)), (n_bound, .inl (E.2.1 0, 3, .inl zbound)), (n_timer, .inl (E.2.1 0, 3, .inl ztimer)), (n_ranOut, .inl (E.2.1 3, 3, .inl zranOut)), (n_outs, .inl (E.2.1 0, 3, .inl zouts)), (n_output, .inl (E.2.1 0, 1500, .inl zoutput)), (n_waits, .inl (E.2.1 0, 3, .inl zwaits)), (n_typed, .inl (E.2.1 0, 300, .inl ztyped)), (n_disk, .inl (E.2.1 0, 384, .inl zdisk))]) rfl (by decide) ?_
    clear hP hD hS
    intro H locs hP hD hS
    clear hr
    refine lv_aload_n J.1 J.2.1 d_MD_rest_202 rfl (lv_at hl 1 rfl) ?_
    refine lv_iload_n J.1 J.2.1 d_MD_rest_203 rfl (lv_at hl 4 rfl) ?_
    refine lv_iconst (v := 3) J.1 J.2.1 d_MD_rest_204 (by decide) ?_
    refine lv_iadd J.1 J.2.1 d_MD_rest_205 ?_
    refine lv_ldc (v := 65536) J.1 J.2.1 J.2.2.2.2.1 (J.2.2.2.2.2.1 _ gk_MD_187) d_MD_rest_206 ?_
    refine lv_irem J.1 J.2.1 d_MD_rest_208 (by decide) ?_
    refine lv_aload_n J.1 J.2.1 d_MD_rest_209 rfl (lv_at hl 1 rfl) ?_
    refine jg J hJ hP 0 rfl rfl i_MD 10 (by decide) gf_MD_47 rfl d_MD_rest_210 ?_
    refine lv_aload_n J.1 J.2.1 d_MD_rest_213 rfl (lv_at hl 1 rfl) ?_
    refine jg J hJ hP 0 rfl rfl i_MD 38 (by decide) gf_MD_261 rfl d_MD_rest_214 ?_
    replace h := g_ck h
    obtain ⟨k_27, h⟩ := h
    refine jai J hJ hP 6 rfl k_27 d_MD_rest_217 ?_
    replace h := g_bd h
    obtain ⟨zmemory_28, q_28, h⟩ := h
    have hq := ct_MD_set l E n0 n_base n_bound n_depth n_disk n_halted n_isThere n_labelAddress n_labelFrom n_labelSize n_made n_memory n_mode n_output n_outs n_pc n_ranOut n_register n_size n_steps n_tape n_timer n_typed n_waits n_wants H.size ztaped zat zend zline zlabels zfault zfaultLine zisTold zaddress zmissing zgood zvalue zvalueFrom zvalueSize zme zmemory_26 zbase ((p3 + 3) - (p3 + 3) / 65536 * 65536) (zbound zme.toNatClampNeg) zmemory_28 q_28
    have hr := jrunV (p := p) (e := e) (below := below) (R := ({ frames := 1, cells := 0, slots := 0, locals := 22 })) (cells := 0) (slots := 0) (As := [.int ((p3 + 3) - (p3 + 3) / 65536 * 65536), .int (zbound zme.toNatClampNeg)]) (rest := []) J hJ hA hZ hP hD hS hq [0, 1, 5] rfl (by decide) gl_MD_280 gi_MD_set gsel_MD_set gini_MD gc_MD_set hd_MD_set ⟨rfl, rfl, Nat.le_of_ble_eq_true rfl, Nat.le_of_ble_eq_true rfl⟩ rfl rfl hl.1 rfl rfl (Nat.le_of_ble_eq_true rfl) d_MD_rest_218 ⟨Nat.zero_le _, Nat.zero_le _⟩
    clear hq
    refine jk_v hr hA hP hD hS [0, 1, 5] [2, 3, 4, 6, 7, 8, 9, 10, 11, 12, 13] (WR := [(n_register, .inl (E.2.1 0, 24, .inl zregister)), (n_mode, .inl (E.2.1 0, 3, .inl zmode)), (n_pc, .inl (E.2.1 0, 3, .inl zpc)), (n_bound, .inl (E.2.1 0, 3, .inl zbound)), (n_timer, .inl (E.2.1 0, 3, .inl ztimer)), (n_ranOut, .inl (E.2.1 3, 3, .inl zranOut)), (n_outs, .inl (E.2.1 0, 3, .inl zouts)), (n_output, .inl (E.2.1 0, 1500, .inl zoutput)), (n_waits, .inl (E.2.1 0, 3, .inl zwaits)), (n_typed, .inl (E.2.1 0, 300, .inl ztyped)), (n_disk, .inl (E.2.1 0, 384, .inl zdisk))]) rfl rfl (by decide) (by decide) [11, 12, 0, 1, 2, 13, 3, 4, 5, 6, 7, 8, 9, 10] (WF := [(n0, .inr (6, [.ref n_tape, .int ztaped, .ref n_isThere, .ref n_size, .ref n_depth, .ref n_memory, .ref n_register, .ref n_mode, .ref n_pc, .ref n_base, .ref n_bound, .ref n_timer, .ref n_ranOut, .ref n_halted, .ref n_steps, .ref n_outs, .ref n_output, .ref n_waits, .ref n_typed, .ref n_disk, .ref n_wants, .int zat, .int zend, .int zline, .ref n_labelFrom, .ref n_labelSize, .ref n_labelAddress, .int zlabels, .int zfault, .int zfaultLine, .int zisTold, .int zaddress, .ref n_made, .int zmissing, .int zgood, .int zvalue, .int zvalueFrom, .int zvalueSize, .int zme])), (n_memory, .inl (E.2.1 0, 3072, .inl zmemory_28)), (n_register, .inl (E.2.1 0, 24, .inl zregister)), (n_mode, .inl (E.2.1 0, 3, .inl zmode)), (n_pc, .inl (E.2.1 0, 3, .inl zpc)), (n_base, .inl (E.2.1 0, 3, .inl zbase)), (n_bound, .inl (E.2.1 0, 3, .inl zbound)), (n_timer, .inl (E.2.1 0, 3, .inl ztimer)), (n_ranOut, .inl (E.2.1 3, 3, .inl zranOut)), (n_outs, .inl (E.2.1 0, 3, .inl zouts)), (n_output, .inl (E.2.1 0, 1500, .inl zoutput)), (n_waits, .inl (E.2.1 0, 3, .inl zwaits)), (n_typed, .inl (E.2.1 0, 300, .inl ztyped)), (n_disk, .inl (E.2.1 0, 384, .inl zdisk))]) rfl (by decide) ?_
    clear hP hD hS
    intro H locs hP hD hS
    clear hr
    refine lv_goto (tgt := 444) J.1 J.2.1 d_MD_rest_221 (by decide) ?_
    have h := Option.some.inj h
    have e_0 := (Prod.mk.inj h).1
    have h := (Prod.mk.inj h).2
    have e_1 := (Prod.mk.inj h).1
    have h := (Prod.mk.inj h).2
    have e_2 := (Prod.mk.inj h).1
    have h := (Prod.mk.inj h).2
    have e_3 := (Prod.mk.inj h).1
    have h := (Prod.mk.inj h).2
    have e_4 := (Prod.mk.inj h).1
    have h := (Prod.mk.inj h).2
    have e_5 := (Prod.mk.inj h).1
    have h := (Prod.mk.inj h).2
    have e_6 := (Prod.mk.inj h).1
    have h := (Prod.mk.inj h).2
    have e_7 := (Prod.mk.inj h).1
    have h := (Prod.mk.inj h).2
    have e_8 := (Prod.mk.inj h).1
    have h := (Prod.mk.inj h).2
    have e_9 := (Prod.mk.inj h).1
    have h := (Prod.mk.inj h).2
    have e_10 := (Prod.mk.inj h).1
    have h := (Prod.mk.inj h).2
    have e_11 := (Prod.mk.inj h).1
    have h := (Prod.mk.inj h).2
    rw [← e_0, ← e_1, ← e_2, ← e_3, ← e_4, ← e_5, ← e_6, ← e_7, ← e_8, ← e_9, ← e_10, ← e_11, ← h]
    exact jr_v J hS hP hD d_MD_rest_444
  replace h := g_f c_20 h
  by_cases c_29 : (p1) = 19
  · replace h := g_t c_29 h
    refine lv_tableIn (off := 212) (tgt := 224) J.1 J.2.1 d_MD_rest_12 (by rw [c_29]; decide) (by rw [c_29]; decide) (by rw [c_29]; rfl) (by decide) ?_
    refine lv_aload_n J.1 J.2.1 d_MD_rest_224 rfl (lv_at hl 1 rfl) ?_
    refine jg J hJ hP 0 rfl rfl i_MD 11 (by decide) gf_MD_50 rfl d_MD_rest_225 ?_
    refine lv_aload_n J.1 J.2.1 d_MD_rest_228 rfl (lv_at hl 1 rfl) ?_
    refine jg J hJ hP 0 rfl rfl i_MD 38 (by decide) gf_MD_261 rfl d_MD_rest_229 ?_
    refine lv_aload_n J.1 J.2.1 d_MD_rest_232 rfl (lv_at hl 1 rfl) ?_
    refine jg J hJ hP 0 rfl rfl i_MD 6 (by decide) gf_MD_35 rfl d_MD_rest_233 ?_
    refine lv_iload J.1 J.2.1 d_MD_rest_236 (lv_at hl 0 rfl) ?_
    replace h := g_ck h
    obtain ⟨k_30, h⟩ := h
    refine jai J hJ hP 2 rfl k_30 d_MD_rest_238 ?_
    replace h := g_ck h
    obtain ⟨k_31, h⟩ := h
    refine jsi J hJ hP hD hS 7 rfl k_31 d_MD_rest_239 (WS' := [(n0, .inr (6, [.ref n_tape, .int ztaped, .ref n_isThere, .ref n_size, .ref n_depth, .ref n_memory, .ref n_register, .ref n_mode, .ref n_pc, .ref n_base, .ref n_bound, .ref n_timer, .ref n_ranOut, .ref n_halted, .ref n_steps, .ref n_outs, .ref n_output, .ref n_waits, .ref n_typed, .ref n_disk, .ref n_wants, .int zat, .int zend, .int zline, .ref n_labelFrom, .ref n_labelSize, .ref n_labelAddress, .int zlabels, .int zfault, .int zfaultLine, .int zisTold, .int zaddress, .ref n_made, .int zmissing, .int zgood, .int zvalue, .int zvalueFrom, .int zvalueSize, .int zme])), (n_memory, .inl (E.2.1 0, 3072, .inl zmemory)), (n_register, .inl (E.2.1 0, 24, .inl zregister)), (n_mode, .inl (E.2.1 0, 3, .inl zmode)), (n_pc, .inl (E.2.1 0, 3, .inl zpc)), (n_base, .inl (E.2.1 0, 3, .inl zbase)), (n_bound, .inl (E.2.1 0, 3, .inl zbound)), (n_timer, .inl (E.2.1 0, 3, .inl (upd ztimer zme.toNatClampNeg (zregister ((8 * zme) + p2).toNatClampNeg)))), (n_ranOut, .inl (E.2.1 3, 3, .inl zranOut)), (n_outs, .inl (E.2.1 0, 3, .inl zouts)), (n_output, .inl (E.2.1 0, 1500, .inl zoutput)), (n_waits, .inl (E.2.1 0, 3, .inl zwaits)), (n_typed, .inl (E.2.1 0, 300, .inl ztyped)), (n_disk, .inl (E.2.1 0, 384, .inl zdisk))]) rfl ?_
    clear hP hD hS
    intro H locs hP hD hS
    refine lv_aload_n J.1 J.2.1 d_MD_rest_240 rfl (lv_at hl 1 rfl) ?_
    refine jg J hJ hP 0 rfl rfl i_MD 12 (by decide) gf_MD_53 rfl d_MD_rest_241 ?_
    refine lv_aload_n J.1 J.2.1 d_MD_rest_244 rfl (lv_at hl 1 rfl) ?_
    refine jg J hJ hP 0 rfl rfl i_MD 38 (by decide) gf_MD_261 rfl d_MD_rest_245 ?_
    refine lv_iconst (v := 0) J.1 J.2.1 d_MD_rest_248 (by decide) ?_
    replace h := g_ck h
    obtain ⟨k_32, h⟩ := h
    refine va_zast J.1 J.2.1 hJ.1 hP hD hS 8 3 rfl rfl k_32 d_MD_rest_249 ?_
    clear hP hD hS
    intro H locs hP hD hS
    have hP : va_P E.1 classes [(n0, .inr (6, [.ref n_tape, .int ztaped, .ref n_isThere, .ref n_size, .ref n_depth, .ref n_memory, .ref n_register, .ref n_mode, .ref n_pc, .ref n_base, .ref n_bound, .ref n_timer, .ref n_ranOut, .ref n_halted, .ref n_steps, .ref n_outs, .ref n_output, .ref n_waits, .ref n_typed, .ref n_disk, .ref n_wants, .int zat, .int zend, .int zline, .ref n_labelFrom, .ref n_labelSize, .ref n_labelAddress, .int zlabels, .int zfault, .int zfaultLine, .int zisTold, .int zaddress, .ref n_made, .int zmissing, .int zgood, .int zvalue, .int zvalueFrom, .int zvalueSize, .int zme])), (n_memory, .inl (E.2.1 0, 3072, .inl zmemory)), (n_register, .inl (E.2.1 0, 24, .inl zregister)), (n_mode, .inl (E.2.1 0, 3, .inl zmode)), (n_pc, .inl (E.2.1 0, 3, .inl zpc)), (n_base, .inl (E.2.1 0, 3, .inl zbase)), (n_bound, .inl (E.2.1 0, 3, .inl zbound)), (n_timer, .inl (E.2.1 0, 3, .inl (upd ztimer zme.toNatClampNeg (zregister ((8 * zme) + p2).toNatClampNeg)))), (n_ranOut, .inl (E.2.1 3, 3, .inl (upd zranOut zme.toNatClampNeg (vp_nar .boolean 0)))), (n_outs, .inl (E.2.1 0, 3, .inl zouts)), (n_output, .inl (E.2.1 0, 1500, .inl zoutput)), (n_waits, .inl (E.2.1 0, 3, .inl zwaits)), (n_typed, .inl (E.2.1 0, 300, .inl ztyped)), (n_disk, .inl (E.2.1 0, 384, .inl zdisk))] H := hP
    have hD : va_D A [(n0, .inr (6, [.ref n_tape, .int ztaped, .ref n_isThere, .ref n_size, .ref n_depth, .ref n_memory, .ref n_register, .ref n_mode, .ref n_pc, .ref n_base, .ref n_bound, .ref n_timer, .ref n_ranOut, .ref n_halted, .ref n_steps, .ref n_outs, .ref n_output, .ref n_waits, .ref n_typed, .ref n_disk, .ref n_wants, .int zat, .int zend, .int zline, .ref n_labelFrom, .ref n_labelSize, .ref n_labelAddress, .int zlabels, .int zfault, .int zfaultLine, .int zisTold, .int zaddress, .ref n_made, .int zmissing, .int zgood, .int zvalue, .int zvalueFrom, .int zvalueSize, .int zme])), (n_memory, .inl (E.2.1 0, 3072, .inl zmemory)), (n_register, .inl (E.2.1 0, 24, .inl zregister)), (n_mode, .inl (E.2.1 0, 3, .inl zmode)), (n_pc, .inl (E.2.1 0, 3, .inl zpc)), (n_base, .inl (E.2.1 0, 3, .inl zbase)), (n_bound, .inl (E.2.1 0, 3, .inl zbound)), (n_timer, .inl (E.2.1 0, 3, .inl (upd ztimer zme.toNatClampNeg (zregister ((8 * zme) + p2).toNatClampNeg)))), (n_ranOut, .inl (E.2.1 3, 3, .inl (upd zranOut zme.toNatClampNeg (vp_nar .boolean 0)))), (n_outs, .inl (E.2.1 0, 3, .inl zouts)), (n_output, .inl (E.2.1 0, 1500, .inl zoutput)), (n_waits, .inl (E.2.1 0, 3, .inl zwaits)), (n_typed, .inl (E.2.1 0, 300, .inl ztyped)), (n_disk, .inl (E.2.1 0, 384, .inl zdisk))] := hD
    refine lv_goto (tgt := 444) J.1 J.2.1 d_MD_rest_250 (by decide) ?_
    have h := Option.some.inj h
    have e_0 := (Prod.mk.inj h).1
    have h := (Prod.mk.inj h).2
    have e_1 := (Prod.mk.inj h).1
    have h := (Prod.mk.inj h).2
    have e_2 := (Prod.mk.inj h).1
    have h := (Prod.mk.inj h).2
    have e_3 := (Prod.mk.inj h).1
    have h := (Prod.mk.inj h).2
    have e_4 := (Prod.mk.inj h).1
    have h := (Prod.mk.inj h).2
    have e_5 := (Prod.mk.inj h).1
    have h := (Prod.mk.inj h).2
    have e_6 := (Prod.mk.inj h).1
    have h := (Prod.mk.inj h).2
    have e_7 := (Prod.mk.inj h).1
    have h := (Prod.mk.inj h).2
    have e_8 := (Prod.mk.inj h).1
    have h := (Prod.mk.inj h).2
    have e_9 := (Prod.mk.inj h).1
    have h := (Prod.mk.inj h).2
    have e_10 := (Prod.mk.inj h).1
    have h := (Prod.mk.inj h).2
    have e_11 := (Prod.mk.inj h).1
    have h := (Prod.mk.inj h).2
    rw [← e_0, ← e_1, ← e_2, ← e_3, ← e_4, ← e_5, ← e_6, ← e_7, ← e_8, ← e_9, ← e_10, ← e_11, ← h]
    exact jr_v J hS hP hD d_MD_rest_444
  replace h := g_f c_29 h
  by_cases c_33 : (p1) = 20
  · replace h := g_t c_33 h
    refine lv_tableIn (off := 241) (tgt := 253) J.1 J.2.1 d_MD_rest_12 (by rw [c_33]; decide) (by rw [c_33]; decide) (by rw [c_33]; rfl) (by decide) ?_
    refine lv_aload_n J.1 J.2.1 d_MD_rest_253 rfl (lv_at hl 1 rfl) ?_
    refine jg J hJ hP 0 rfl rfl i_MD 6 (by decide) gf_MD_35 rfl d_MD_rest_254 ?_
    refine lv_iload J.1 J.2.1 d_MD_rest_257 (lv_at hl 0 rfl) ?_
    refine lv_aload_n J.1 J.2.1 d_MD_rest_259 rfl (lv_at hl 1 rfl) ?_
    refine jg J hJ hP 0 rfl rfl i_MD 11 (by decide) gf_MD_50 rfl d_MD_rest_260 ?_
    refine lv_aload_n J.1 J.2.1 d_MD_rest_263 rfl (lv_at hl 1 rfl) ?_
    refine jg J hJ hP 0 rfl rfl i_MD 38 (by decide) gf_MD_261 rfl d_MD_rest_264 ?_
    replace h := g_ck h
    obtain ⟨k_34, h⟩ := h
    refine jai J hJ hP 7 rfl k_34 d_MD_rest_267 ?_
    replace h := g_ck h
    obtain ⟨k_35, h⟩ := h
    refine jsi J hJ hP hD hS 2 rfl k_35 d_MD_rest_268 (WS' := [(n0, .inr (6, [.ref n_tape, .int ztaped, .ref n_isThere, .ref n_size, .ref n_depth, .ref n_memory, .ref n_register, .ref n_mode, .ref n_pc, .ref n_base, .ref n_bound, .ref n_timer, .ref n_ranOut, .ref n_halted, .ref n_steps, .ref n_outs, .ref n_output, .ref n_waits, .ref n_typed, .ref n_disk, .ref n_wants, .int zat, .int zend, .int zline, .ref n_labelFrom, .ref n_labelSize, .ref n_labelAddress, .int zlabels, .int zfault, .int zfaultLine, .int zisTold, .int zaddress, .ref n_made, .int zmissing, .int zgood, .int zvalue, .int zvalueFrom, .int zvalueSize, .int zme])), (n_memory, .inl (E.2.1 0, 3072, .inl zmemory)), (n_register, .inl (E.2.1 0, 24, .inl (upd zregister ((8 * zme) + p2).toNatClampNeg (ztimer zme.toNatClampNeg)))), (n_mode, .inl (E.2.1 0, 3, .inl zmode)), (n_pc, .inl (E.2.1 0, 3, .inl zpc)), (n_base, .inl (E.2.1 0, 3, .inl zbase)), (n_bound, .inl (E.2.1 0, 3, .inl zbound)), (n_timer, .inl (E.2.1 0, 3, .inl ztimer)), (n_ranOut, .inl (E.2.1 3, 3, .inl zranOut)), (n_outs, .inl (E.2.1 0, 3, .inl zouts)), (n_output, .inl (E.2.1 0, 1500, .inl zoutput)), (n_waits, .inl (E.2.1 0, 3, .inl zwaits)), (n_typed, .inl (E.2.1 0, 300, .inl ztyped)), (n_disk, .inl (E.2.1 0, 384, .inl zdisk))]) rfl ?_
    clear hP hD hS
    intro H locs hP hD hS
    refine lv_goto (tgt := 444) J.1 J.2.1 d_MD_rest_269 (by decide) ?_
    have h := Option.some.inj h
    have e_0 := (Prod.mk.inj h).1
    have h := (Prod.mk.inj h).2
    have e_1 := (Prod.mk.inj h).1
    have h := (Prod.mk.inj h).2
    have e_2 := (Prod.mk.inj h).1
    have h := (Prod.mk.inj h).2
    have e_3 := (Prod.mk.inj h).1
    have h := (Prod.mk.inj h).2
    have e_4 := (Prod.mk.inj h).1
    have h := (Prod.mk.inj h).2
    have e_5 := (Prod.mk.inj h).1
    have h := (Prod.mk.inj h).2
    have e_6 := (Prod.mk.inj h).1
    have h := (Prod.mk.inj h).2
    have e_7 := (Prod.mk.inj h).1
    have h := (Prod.mk.inj h).2
    have e_8 := (Prod.mk.inj h).1
    have h := (Prod.mk.inj h).2
    have e_9 := (Prod.mk.inj h).1
    have h := (Prod.mk.inj h).2
    have e_10 := (Prod.mk.inj h).1
    have h := (Prod.mk.inj h).2
    have e_11 := (Prod.mk.inj h).1
    have h := (Prod.mk.inj h).2
    rw [← e_0, ← e_1, ← e_2, ← e_3, ← e_4, ← e_5, ← e_6, ← e_7, ← e_8, ← e_9, ← e_10, ← e_11, ← h]
    exact jr_v J hS hP hD d_MD_rest_444
  replace h := g_f c_33 h
  by_cases c_36 : (p1) = 21
  · replace h := g_t c_36 h
    refine lv_tableIn (off := 260) (tgt := 272) J.1 J.2.1 d_MD_rest_12 (by rw [c_36]; decide) (by rw [c_36]; decide) (by rw [c_36]; rfl) (by decide) ?_
    refine lv_aload_n J.1 J.2.1 d_MD_rest_272 rfl (lv_at hl 1 rfl) ?_
    refine jg J hJ hP 0 rfl rfl i_MD 6 (by decide) gf_MD_35 rfl d_MD_rest_273 ?_
    refine lv_iload J.1 J.2.1 d_MD_rest_276 (lv_at hl 0 rfl) ?_
    refine lv_aload_n J.1 J.2.1 d_MD_rest_278 rfl (lv_at hl 1 rfl) ?_
    replace h := g_bd h
    obtain ⟨⟨r_37, zwaits_37, ztyped_37⟩, q_37, h⟩ := h
    try dsimp only at h
    have hq := ct_MD_typedNext l E n0 n_base n_bound n_depth n_disk n_halted n_isThere n_labelAddress n_labelFrom n_labelSize n_made n_memory n_mode n_output n_outs n_pc n_ranOut n_register n_size n_steps n_tape n_timer n_typed n_waits n_wants s.heap.size ztaped zat zend zline zlabels zfault zfaultLine zisTold zaddress zmissing zgood zvalue zvalueFrom zvalueSize zme zwaits ztyped r_37 zwaits_37 ztyped_37 q_37
    have hr := jrunV (p := p) (e := e) (below := below) (R := ({ frames := 1, cells := 0, slots := 0, locals := 22 })) (cells := 0) (slots := 0) (As := []) (rest := [.int ((8 * zme) + p2), .ref n_register]) J hJ hA hZ hP hD hS hq [0, 11, 12] rfl (by decide) gl_MD_288 gi_MD_typedNext gsel_MD_typedNext gini_MD gc_MD_typedNext hd_MD_typedNext ⟨rfl, rfl, Nat.le_of_ble_eq_true rfl, Nat.le_of_ble_eq_true rfl⟩ rfl rfl hl.1 rfl rfl (Nat.le_of_ble_eq_true rfl) d_MD_rest_279 ⟨Nat.zero_le _, Nat.zero_le _⟩
    clear hq
    refine jk_i hr hA hP hD hS [0, 11, 12] [1, 2, 3, 4, 5, 6, 7, 8, 9, 10, 13] (WR := [(n_memory, .inl (E.2.1 0, 3072, .inl zmemory)), (n_register, .inl (E.2.1 0, 24, .inl zregister)), (n_mode, .inl (E.2.1 0, 3, .inl zmode)), (n_pc, .inl (E.2.1 0, 3, .inl zpc)), (n_base, .inl (E.2.1 0, 3, .inl zbase)), (n_bound, .inl (E.2.1 0, 3, .inl zbound)), (n_timer, .inl (E.2.1 0, 3, .inl ztimer)), (n_ranOut, .inl (E.2.1 3, 3, .inl zranOut)), (n_outs, .inl (E.2.1 0, 3, .inl zouts)), (n_output, .inl (E.2.1 0, 1500, .inl zoutput)), (n_disk, .inl (E.2.1 0, 384, .inl zdisk))]) rfl rfl (by decide) (by decide) [11, 0, 1, 2, 3, 4, 5, 6, 7, 8, 9, 12, 13, 10] (WF := [(n0, .inr (6, [.ref n_tape, .int ztaped, .ref n_isThere, .ref n_size, .ref n_depth, .ref n_memory, .ref n_register, .ref n_mode, .ref n_pc, .ref n_base, .ref n_bound, .ref n_timer, .ref n_ranOut, .ref n_halted, .ref n_steps, .ref n_outs, .ref n_output, .ref n_waits, .ref n_typed, .ref n_disk, .ref n_wants, .int zat, .int zend, .int zline, .ref n_labelFrom, .ref n_labelSize, .ref n_labelAddress, .int zlabels, .int zfault, .int zfaultLine, .int zisTold, .int zaddress, .ref n_made, .int zmissing, .int zgood, .int zvalue, .int zvalueFrom, .int zvalueSize, .int zme])), (n_memory, .inl (E.2.1 0, 3072, .inl zmemory)), (n_register, .inl (E.2.1 0, 24, .inl zregister)), (n_mode, .inl (E.2.1 0, 3, .inl zmode)), (n_pc, .inl (E.2.1 0, 3, .inl zpc)), (n_base, .inl (E.2.1 0, 3, .inl zbase)), (n_bound, .inl (E.2.1 0, 3, .inl zbound)), (n_timer, .inl (E.2.1 0, 3, .inl ztimer)), (n_ranOut, .inl (E.2.1 3, 3, .inl zranOut)), (n_outs, .inl (E.2.1 0, 3, .inl zouts)), (n_output, .inl (E.2.1 0, 1500, .inl zoutput)), (n_waits, .inl (E.2.1 0, 3, .inl zwaits_37)), (n_typed, .inl (E.2.1 0, 300, .inl ztyped_37)), (n_disk, .inl (E.2.1 0, 384, .inl zdisk))]) rfl (by decide) ?_
    clear hP hD hS
    intro H locs hP hD hS
    clear hr
    replace h := g_ck h
    obtain ⟨k_38, h⟩ := h
    refine jsi J hJ hP hD hS 2 rfl k_38 d_MD_rest_282 (WS' := [(n0, .inr (6, [.ref n_tape, .int ztaped, .ref n_isThere, .ref n_size, .ref n_depth, .ref n_memory, .ref n_register, .ref n_mode, .ref n_pc, .ref n_base, .ref n_bound, .ref n_timer, .ref n_ranOut, .ref n_halted, .ref n_steps, .ref n_outs, .ref n_output, .ref n_waits, .ref n_typed, .ref n_disk, .ref n_wants, .int zat, .int zend, .int zline, .ref n_labelFrom, .ref n_labelSize, .ref n_labelAddress, .int zlabels, .int zfault, .int zfaultLine, .int zisTold, .int zaddress, .ref n_made, .int zmissing, .int zgood, .int zvalue, .int zvalueFrom, .int zvalueSize, .int zme])), (n_memory, .inl (E.2.1 0, 3072, .inl zmemory)), (n_register, .inl (E.2.1 0, 24, .inl (upd zregister ((8 * zme) + p2).toNatClampNeg r_37))), (n_mode, .inl (E.2.1 0, 3, .inl zmode)), (n_pc, .inl (E.2.1 0, 3, .inl zpc)), (n_base, .inl (E.2.1 0, 3, .inl zbase)), (n_bound, .inl (E.2.1 0, 3, .inl zbound)), (n_timer, .inl (E.2.1 0, 3, .inl ztimer)), (n_ranOut, .inl (E.2.1 3, 3, .inl zranOut)), (n_outs, .inl (E.2.1 0, 3, .inl zouts)), (n_output, .inl (E.2.1 0, 1500, .inl zoutput)), (n_waits, .inl (E.2.1 0, 3, .inl zwaits_37)), (n_typed, .inl (E.2.1 0, 300, .inl ztyped_37)), (n_disk, .inl (E.2.1 0, 384, .inl zdisk))]) rfl ?_
    clear hP hD hS
    intro H locs hP hD hS
    refine lv_goto (tgt := 444) J.1 J.2.1 d_MD_rest_283 (by decide) ?_
    have h := Option.some.inj h
    have e_0 := (Prod.mk.inj h).1
    have h := (Prod.mk.inj h).2
    have e_1 := (Prod.mk.inj h).1
    have h := (Prod.mk.inj h).2
    have e_2 := (Prod.mk.inj h).1
    have h := (Prod.mk.inj h).2
    have e_3 := (Prod.mk.inj h).1
    have h := (Prod.mk.inj h).2
    have e_4 := (Prod.mk.inj h).1
    have h := (Prod.mk.inj h).2
    have e_5 := (Prod.mk.inj h).1
    have h := (Prod.mk.inj h).2
    have e_6 := (Prod.mk.inj h).1
    have h := (Prod.mk.inj h).2
    have e_7 := (Prod.mk.inj h).1
    have h := (Prod.mk.inj h).2
    have e_8 := (Prod.mk.inj h).1
    have h := (Prod.mk.inj h).2
    have e_9 := (Prod.mk.inj h).1
    have h := (Prod.mk.inj h).2
    have e_10 := (Prod.mk.inj h).1
    have h := (Prod.mk.inj h).2
    have e_11 := (Prod.mk.inj h).1
    have h := (Prod.mk.inj h).2
    rw [← e_0, ← e_1, ← e_2, ← e_3, ← e_4, ← e_5, ← e_6, ← e_7, ← e_8, ← e_9, ← e_10, ← e_11, ← h]
    exact jr_v J hS hP hD d_MD_rest_444
  replace h := g_f c_36 h
  by_cases c_39 : (p1) = 22
  · replace h := g_t c_39 h
    refine lv_tableIn (off := 274) (tgt := 286) J.1 J.2.1 d_MD_rest_12 (by rw [c_39]; decide) (by rw [c_39]; decide) (by rw [c_39]; rfl) (by decide) ?_
    refine lv_aload_n J.1 J.2.1 d_MD_rest_286 rfl (lv_at hl 1 rfl) ?_
    refine jg J hJ hP 0 rfl rfl i_MD 15 (by decide) gf_MD_62 rfl d_MD_rest_287 ?_
    refine lv_aload_n J.1 J.2.1 d_MD_rest_290 rfl (lv_at hl 1 rfl) ?_
    refine jg J hJ hP 0 rfl rfl i_MD 38 (by decide) gf_MD_261 rfl d_MD_rest_291 ?_
    replace h := g_ck h
    obtain ⟨k_40, h⟩ := h
    refine jai J hJ hP 9 rfl k_40 d_MD_rest_294 ?_
    refine lv_sipush (v := 500) J.1 J.2.1 d_MD_rest_295 (by decide) ?_
    refine lv_icmp_ge (tgt := 335) J.1 J.2.1 d_MD_rest_298 (by decide) (fun c_41 => ?_) (fun c_41 => ?_)
    · replace h := g_t c_41 h
      exact kb_MD_rest_335 J hJ hA hZ _ _ _ _ _ _ _ _ _ _ _ _ _ _ _ _ _ _ _ _ _ _ _ _ _ _ _ _ _ _ _ h hP hD hS (lv_sub hl [1] rfl)
    · replace h := g_f c_41 h
      refine lv_aload_n J.1 J.2.1 d_MD_rest_301 rfl (lv_at hl 1 rfl) ?_
      refine jg J hJ hP 0 rfl rfl i_MD 16 (by decide) gf_MD_65 rfl d_MD_rest_302 ?_
      refine lv_sipush (v := 500) J.1 J.2.1 d_MD_rest_305 (by decide) ?_
      refine lv_aload_n J.1 J.2.1 d_MD_rest_308 rfl (lv_at hl 1 rfl) ?_
      refine jg J hJ hP 0 rfl rfl i_MD 38 (by decide) gf_MD_261 rfl d_MD_rest_309 ?_
      refine lv_imul J.1 J.2.1 d_MD_rest_312 ?_
      refine lv_aload_n J.1 J.2.1 d_MD_rest_313 rfl (lv_at hl 1 rfl) ?_
      refine jg J hJ hP 0 rfl rfl i_MD 15 (by decide) gf_MD_62 rfl d_MD_rest_314 ?_
      refine lv_aload_n J.1 J.2.1 d_MD_rest_317 rfl (lv_at hl 1 rfl) ?_
      refine jg J hJ hP 0 rfl rfl i_MD 38 (by decide) gf_MD_261 rfl d_MD_rest_318 ?_
      replace h := g_ck h
      obtain ⟨k_42, h⟩ := h
      refine jai J hJ hP 9 rfl k_42 d_MD_rest_321 ?_
      refine lv_iadd J.1 J.2.1 d_MD_rest_322 ?_
      refine lv_aload_n J.1 J.2.1 d_MD_rest_323 rfl (lv_at hl 1 rfl) ?_
      refine jg J hJ hP 0 rfl rfl i_MD 6 (by decide) gf_MD_35 rfl d_MD_rest_324 ?_
      refine lv_iload J.1 J.2.1 d_MD_rest_327 (lv_at hl 0 rfl) ?_
      replace h := g_ck h
      obtain ⟨k_43, h⟩ := h
      refine jai J hJ hP 2 rfl k_43 d_MD_rest_329 ?_
      refine lv_sipush (v := 255) J.1 J.2.1 d_MD_rest_330 (by decide) ?_
      refine lv_iand J.1 J.2.1 d_MD_rest_333 ?_
      replace h := g_ck h
      obtain ⟨k_44, h⟩ := h
      refine jsi J hJ hP hD hS 10 rfl k_44 d_MD_rest_334 (WS' := [(n0, .inr (6, [.ref n_tape, .int ztaped, .ref n_isThere, .ref n_size, .ref n_depth, .ref n_memory, .ref n_register, .ref n_mode, .ref n_pc, .ref n_base, .ref n_bound, .ref n_timer, .ref n_ranOut, .ref n_halted, .ref n_steps, .ref n_outs, .ref n_output, .ref n_waits, .ref n_typed, .ref n_disk, .ref n_wants, .int zat, .int zend, .int zline, .ref n_labelFrom, .ref n_labelSize, .ref n_labelAddress, .int zlabels, .int zfault, .int zfaultLine, .int zisTold, .int zaddress, .ref n_made, .int zmissing, .int zgood, .int zvalue, .int zvalueFrom, .int zvalueSize, .int zme])), (n_memory, .inl (E.2.1 0, 3072, .inl zmemory)), (n_register, .inl (E.2.1 0, 24, .inl zregister)), (n_mode, .inl (E.2.1 0, 3, .inl zmode)), (n_pc, .inl (E.2.1 0, 3, .inl zpc)), (n_base, .inl (E.2.1 0, 3, .inl zbase)), (n_bound, .inl (E.2.1 0, 3, .inl zbound)), (n_timer, .inl (E.2.1 0, 3, .inl ztimer)), (n_ranOut, .inl (E.2.1 3, 3, .inl zranOut)), (n_outs, .inl (E.2.1 0, 3, .inl zouts)), (n_output, .inl (E.2.1 0, 1500, .inl (upd zoutput ((500 * zme) + (zouts zme.toNatClampNeg)).toNatClampNeg ((zregister ((8 * zme) + p2).toNatClampNeg) &&& 255)))), (n_waits, .inl (E.2.1 0, 3, .inl zwaits)), (n_typed, .inl (E.2.1 0, 300, .inl ztyped)), (n_disk, .inl (E.2.1 0, 384, .inl zdisk))]) rfl ?_
      clear hP hD hS
      intro H locs hP hD hS
      exact kb_MD_rest_335 J hJ hA hZ _ _ _ _ _ _ _ _ _ _ _ _ _ _ _ _ _ _ _ _ _ _ _ _ _ _ _ _ _ _ _ h hP hD hS (lv_sub hl [1] rfl)
  replace h := g_f c_39 h
  refine lv_tableOut (tgt := 351) J.1 J.2.1 d_MD_rest_12 (by have e0 := lv_neT c_12 (a := 17) (by decide); have e1 := lv_neT c_20 (a := 18) (by decide); have e2 := lv_neT c_29 (a := 19) (by decide); have e3 := lv_neT c_33 (a := 20) (by decide); have e4 := lv_neT c_36 (a := 21) (by decide); have e5 := lv_neT c_39 (a := 22) (by decide); omega) (by decide) ?_
  refine lv_sipush (v := 128) J.1 J.2.1 d_MD_rest_351 (by decide) ?_
  refine lv_aload_n J.1 J.2.1 d_MD_rest_354 rfl (lv_at hl 1 rfl) ?_
  refine jg J hJ hP 0 rfl rfl i_MD 38 (by decide) gf_MD_261 rfl d_MD_rest_355 ?_
  refine lv_imul J.1 J.2.1 d_MD_rest_358 ?_
  refine lv_bipush (v := 16) J.1 J.2.1 d_MD_rest_359 (by decide) ?_
  refine lv_aload_n J.1 J.2.1 d_MD_rest_361 rfl (lv_at hl 1 rfl) ?_
  refine jg J hJ hP 0 rfl rfl i_MD 6 (by decide) gf_MD_35 rfl d_MD_rest_362 ?_
  refine lv_iload J.1 J.2.1 d_MD_rest_365 (lv_at hl 0 rfl) ?_
  replace h := g_ck h
  obtain ⟨k_45, h⟩ := h
  refine jai J hJ hP 2 rfl k_45 d_MD_rest_367 ?_
  refine lv_bipush (v := 8) J.1 J.2.1 d_MD_rest_368 (by decide) ?_
  refine lv_irem J.1 J.2.1 d_MD_rest_370 (by decide) ?_
  refine lv_imul J.1 J.2.1 d_MD_rest_371 ?_
  refine lv_iadd J.1 J.2.1 d_MD_rest_372 ?_
  refine lv_istore (lv' := [(10, .int ((128 * zme) + (16 * ((zregister ((8 * zme) + p2).toNatClampNeg) - (zregister ((8 * zme) + p2).toNatClampNeg) / 8 * 8)))), (5, .int ((8 * zme) + p2)), (0, .ref n0), (1, .int p1), (2, .int p2), (3, .int p3), (4, .int p4)]) J.1 J.2.1 d_MD_rest_373 hl (by decide) rfl ?_
  clear hl
  intro ls hl
  refine lv_iconst (v := 0) J.1 J.2.1 d_MD_rest_375 (by decide) ?_
  refine lv_istore (lv' := [(11, .int 0), (10, .int ((128 * zme) + (16 * ((zregister ((8 * zme) + p2).toNatClampNeg) - (zregister ((8 * zme) + p2).toNatClampNeg) / 8 * 8)))), (5, .int ((8 * zme) + p2)), (0, .ref n0), (1, .int p1), (2, .int p2), (3, .int p3), (4, .int p4)]) J.1 J.2.1 d_MD_rest_376 hl (by decide) rfl ?_
  clear hl
  intro ls hl
  exact kb_MD_rest_378 J hJ hA hZ _ _ _ _ _ _ _ _ _ _ _ _ _ _ _ _ _ _ _ _ _ _ _ _ _ _ _ _ _ _ _ _ _ _ _ _ h hP hD hS (lv_sub hl [3, 4, 7, 1, 0] rfl)

theorem hd_MD_does : y_MD_does.cls ≠ "java/lang/invoke/MethodHandle" ∧ y_MD_does.cls ≠ "java/lang/invoke/VarHandle" ∧ (parseMethodDescriptor y_MD_does.desc).map (fun d => d.parameters.length) = some 6 := by decide +kernel
def f_MD_does (zme : Int32) (zmemory : Nat → Int32) (zregister : Nat → Int32) (zmode : Nat → Int32) (zpc : Nat → Int32) (zbase : Nat → Int32) (zbound : Nat → Int32) (ztimer : Nat → Int32) (zranOut : Nat → Int32) (zhalted : Nat → Int32) (zouts : Nat → Int32) (zoutput : Nat → Int32) (zwaits : Nat → Int32) (ztyped : Nat → Int32) (zdisk : Nat → Int32) (p1 : Int32) (p2 : Int32) (p3 : Int32) (p4 : Int32) (p5 : Int32) (p6 : Int32) : Option ((Nat → Int32) × (Nat → Int32) × (Nat → Int32) × (Nat → Int32) × (Nat → Int32) × (Nat → Int32) × (Nat → Int32) × (Nat → Int32) × (Nat → Int32) × (Nat → Int32) × (Nat → Int32) × (Nat → Int32) × (Nat → Int32) × (Nat → Int32)) := (if ck ((8 * zme) + p2) 24 then (if ck ((8 * zme) + p3) 24 then (if (p1) = 0 then (if ck zme 3 then (if ck zme 3 then (some (zmemory, zregister, zmode, (upd zpc zme.toNatClampNeg p6), zbase, zbound, ztimer, zranOut, (upd zhalted zme.toNatClampNeg (vp_nar .boolean 1)), zouts, zoutput, zwaits, ztyped, zdisk)) else none) else none) else (if (p1) = 1 then (if ck ((8 * zme) + p2) 24 then (some (zmemory, (upd zregister ((8 * zme) + p2).toNatClampNeg p4), zmode, zpc, zbase, zbound, ztimer, zranOut, zhalted, zouts, zoutput, zwaits, ztyped, zdisk)) else none) else (if (p1) = 2 then ((f_MD_get zme zmemory zbase p5).bind fun r_9 => (if ck ((8 * zme) + p2) 24 then (some (zmemory, (upd zregister ((8 * zme) + p2).toNatClampNeg r_9), zmode, zpc, zbase, zbound, ztimer, zranOut, zhalted, zouts, zoutput, zwaits, ztyped, zdisk)) else none)) else (if (p1) = 3 then ((f_MD_set zme zmemory zbase p5 (zregister ((8 * zme) + p2).toNatClampNeg)).bind fun zmemory_12 => (some (zmemory_12, zregister, zmode, zpc, zbase, zbound, ztimer, zranOut, zhalted, zouts, zoutput, zwaits, ztyped, zdisk))) else (if (p1) = 4 then ((f_MD_get zme zmemory zbase p5).bind fun r_14 => (if ck ((8 * zme) + p2) 24 then (some (zmemory, (upd zregister ((8 * zme) + p2).toNatClampNeg r_14), zmode, zpc, zbase, zbound, ztimer, zranOut, zhalted, zouts, zoutput, zwaits, ztyped, zdisk)) else none)) else (if (p1) = 5 then ((f_MD_set zme zmemory zbase p5 (zregister ((8 * zme) + p2).toNatClampNeg)).bind fun zmemory_17 => (some (zmemory_17, zregister, zmode, zpc, zbase, zbound, ztimer, zranOut, zhalted, zouts, zoutput, zwaits, ztyped, zdisk))) else (if (p1) = 6 then (if ck ((8 * zme) + p2) 24 then (some (zmemory, (upd zregister ((8 * zme) + p2).toNatClampNeg (zregister ((8 * zme) + p3).toNatClampNeg)), zmode, zpc, zbase, zbound, ztimer, zranOut, zhalted, zouts, zoutput, zwaits, ztyped, zdisk)) else none) else (if (p1) = 7 then (if ck ((8 * zme) + p2) 24 then (some (zmemory, (upd zregister ((8 * zme) + p2).toNatClampNeg (((zregister ((8 * zme) + p2).toNatClampNeg) + (zregister ((8 * zme) + p3).toNatClampNeg)) - ((zregister ((8 * zme) + p2).toNatClampNeg) + (zregister ((8 * zme) + p3).toNatClampNeg)) / 65536 * 65536)), zmode, zpc, zbase, zbound, ztimer, zranOut, zhalted, zouts, zoutput, zwaits, ztyped, zdisk)) else none) else (if (p1) = 8 then (if ck ((8 * zme) + p2) 24 then (some (zmemory, (upd zregister ((8 * zme) + p2).toNatClampNeg ((((zregister ((8 * zme) + p2).toNatClampNeg) - (zregister ((8 * zme) + p3).toNatClampNeg)) + 65536) - (((zregister ((8 * zme) + p2).toNatClampNeg) - (zregister ((8 * zme) + p3).toNatClampNeg)) + 65536) / 65536 * 65536)), zmode, zpc, zbase, zbound, ztimer, zranOut, zhalted, zouts, zoutput, zwaits, ztyped, zdisk)) else none) else (if (p1) = 9 then (if ck ((8 * zme) + p2) 24 then (some (zmemory, (upd zregister ((8 * zme) + p2).toNatClampNeg ((zregister ((8 * zme) + p2).toNatClampNeg) &&& (zregister ((8 * zme) + p3).toNatClampNeg))), zmode, zpc, zbase, zbound, ztimer, zranOut, zhalted, zouts, zoutput, zwaits, ztyped, zdisk)) else none) else (if (p1) = 10 then (if (zregister ((8 * zme) + p3).toNatClampNeg) ≤ (zregister ((8 * zme) + p2).toNatClampNeg) then (if ck ((8 * zme) + p2) 24 then (some (zmemory, (upd zregister ((8 * zme) + p2).toNatClampNeg 0), zmode, zpc, zbase, zbound, ztimer, zranOut, zhalted, zouts, zoutput, zwaits, ztyped, zdisk)) else none) else (if ck ((8 * zme) + p2) 24 then (some (zmemory, (upd zregister ((8 * zme) + p2).toNatClampNeg 1), zmode, zpc, zbase, zbound, ztimer, zranOut, zhalted, zouts, zoutput, zwaits, ztyped, zdisk)) else none)) else (if (p1) = 11 then (if ((p4 / 16) - (p4 / 16) / 2 * 2) = (0 : Int32) then (if ck ((8 * zme) + p2) 24 then (some (zmemory, (upd zregister ((8 * zme) + p2).toNatClampNeg (((zregister ((8 * zme) + p2).toNatClampNeg) <<< ((p4 - p4 / 16 * 16) &&& 31)) - ((zregister ((8 * zme) + p2).toNatClampNeg) <<< ((p4 - p4 / 16 * 16) &&& 31)) / 65536 * 65536)), zmode, zpc, zbase, zbound, ztimer, zranOut, zhalted, zouts, zoutput, zwaits, ztyped, zdisk)) else none) else (if ck ((8 * zme) + p2) 24 then (some (zmemory, (upd zregister ((8 * zme) + p2).toNatClampNeg ((zregister ((8 * zme) + p2).toNatClampNeg) >>> ((p4 - p4 / 16 * 16) &&& 31))), zmode, zpc, zbase, zbound, ztimer, zranOut, zhalted, zouts, zoutput, zwaits, ztyped, zdisk)) else none)) else (if (p1) = 12 then (if ck zme 3 then (some (zmemory, zregister, zmode, (upd zpc zme.toNatClampNeg p4), zbase, zbound, ztimer, zranOut, zhalted, zouts, zoutput, zwaits, ztyped, zdisk)) else none) else (if (p1) = 13 then (if (zregister ((8 * zme) + p2).toNatClampNeg) = (0 : Int32) then (if ck zme 3 then (some (zmemory, zregister, zmode, (upd zpc zme.toNatClampNeg p4), zbase, zbound, ztimer, zranOut, zhalted, zouts, zoutput, zwaits, ztyped, zdisk)) else none) else (some (zmemory, zregister, zmode, zpc, zbase, zbound, ztimer, zranOut, zhalted, zouts, zoutput, zwaits, ztyped, zdisk))) else (if (p1) = 14 then (if ck zme 3 then (some (zmemory, zregister, zmode, (upd zpc zme.toNatClampNeg (zregister ((8 * zme) + p2).toNatClampNeg)), zbase, zbound, ztimer, zranOut, zhalted, zouts, zoutput, zwaits, ztyped, zdisk)) else none) else (if (p1) = 15 then (if ck ((8 * zme) + p2) 24 then (if ck zme 3 then (some (zmemory, (upd zregister ((8 * zme) + p2).toNatClampNeg ((p6 + 2) - (p6 + 2) / 65536 * 65536)), zmode, (upd zpc zme.toNatClampNeg p4), zbase, zbound, ztimer, zranOut, zhalted, zouts, zoutput, zwaits, ztyped, zdisk)) else none) else none) else ((f_MD_rest zme zmemory zregister zmode zpc zbase zbound ztimer zranOut zouts zoutput zwaits ztyped zdisk p1 p2 p4 p5).bind fun (zmemory_44, zregister_44, zmode_44, zpc_44, zbase_44, zbound_44, ztimer_44, zranOut_44, zouts_44, zoutput_44, zwaits_44, ztyped_44, zdisk_44) => (some (zmemory_44, zregister_44, zmode_44, zpc_44, zbase_44, zbound_44, ztimer_44, zranOut_44, zhalted, zouts_44, zoutput_44, zwaits_44, ztyped_44, zdisk_44))))))))))))))))))) else none) else none)
set_option maxHeartbeats 4000000 in
set_option maxRecDepth 100000 in
theorem ct_MD_does (l : Launch) (E : jz_E) (n0 n_base n_bound n_depth n_disk n_halted n_isThere n_labelAddress n_labelFrom n_labelSize n_made n_memory n_mode n_output n_outs n_pc n_ranOut n_register n_size n_steps n_tape n_timer n_typed n_waits n_wants : Nat) (sz : Nat) (ztaped : Int32) (zat : Int32) (zend : Int32) (zline : Int32) (zlabels : Int32) (zfault : Int32) (zfaultLine : Int32) (zisTold : Int32) (zaddress : Int32) (zmissing : Int32) (zgood : Int32) (zvalue : Int32) (zvalueFrom : Int32) (zvalueSize : Int32) (zme : Int32) (zmemory : Nat → Int32) (zregister : Nat → Int32) (zmode : Nat → Int32) (zpc : Nat → Int32) (zbase : Nat → Int32) (zbound : Nat → Int32) (ztimer : Nat → Int32) (zranOut : Nat → Int32) (zhalted : Nat → Int32) (zouts : Nat → Int32) (zoutput : Nat → Int32) (zwaits : Nat → Int32) (ztyped : Nat → Int32) (zdisk : Nat → Int32) (p1 : Int32) (p2 : Int32) (p3 : Int32) (p4 : Int32) (p5 : Int32) (p6 : Int32) (o_zmemory : Nat → Int32) (o_zregister : Nat → Int32) (o_zmode : Nat → Int32) (o_zpc : Nat → Int32) (o_zbase : Nat → Int32) (o_zbound : Nat → Int32) (o_ztimer : Nat → Int32) (o_zranOut : Nat → Int32) (o_zhalted : Nat → Int32) (o_zouts : Nat → Int32) (o_zoutput : Nat → Int32) (o_zwaits : Nat → Int32) (o_ztyped : Nat → Int32) (o_zdisk : Nat → Int32)  (h : f_MD_does zme zmemory zregister zmode zpc zbase zbound ztimer zranOut zhalted zouts zoutput zwaits ztyped zdisk p1 p2 p3 p4 p5 p6 = some (o_zmemory, o_zregister, o_zmode, o_zpc, o_zbase, o_zbound, o_ztimer, o_zranOut, o_zhalted, o_zouts, o_zoutput, o_zwaits, o_ztyped, o_zdisk)) : CTv l E y_MD_does c_MD_does 10 none ({ frames := 2, cells := 0, slots := 0, locals := 53 }) [.ref n0, .int p1, .int p2, .int p3, .int p4, .int p5, .int p6] [(n0, .inr (6, [.ref n_tape, .int ztaped, .ref n_isThere, .ref n_size, .ref n_depth, .ref n_memory, .ref n_register, .ref n_mode, .ref n_pc, .ref n_base, .ref n_bound, .ref n_timer, .ref n_ranOut, .ref n_halted, .ref n_steps, .ref n_outs, .ref n_output, .ref n_waits, .ref n_typed, .ref n_disk, .ref n_wants, .int zat, .int zend, .int zline, .ref n_labelFrom, .ref n_labelSize, .ref n_labelAddress, .int zlabels, .int zfault, .int zfaultLine, .int zisTold, .int zaddress, .ref n_made, .int zmissing, .int zgood, .int zvalue, .int zvalueFrom, .int zvalueSize, .int zme])), (n_memory, .inl (E.2.1 0, 3072, .inl zmemory)), (n_register, .inl (E.2.1 0, 24, .inl zregister)), (n_mode, .inl (E.2.1 0, 3, .inl zmode)), (n_pc, .inl (E.2.1 0, 3, .inl zpc)), (n_base, .inl (E.2.1 0, 3, .inl zbase)), (n_bound, .inl (E.2.1 0, 3, .inl zbound)), (n_timer, .inl (E.2.1 0, 3, .inl ztimer)), (n_ranOut, .inl (E.2.1 3, 3, .inl zranOut)), (n_halted, .inl (E.2.1 3, 3, .inl zhalted)), (n_outs, .inl (E.2.1 0, 3, .inl zouts)), (n_output, .inl (E.2.1 0, 1500, .inl zoutput)), (n_waits, .inl (E.2.1 0, 3, .inl zwaits)), (n_typed, .inl (E.2.1 0, 300, .inl ztyped)), (n_disk, .inl (E.2.1 0, 384, .inl zdisk))] sz [(n0, .inr (6, [.ref n_tape, .int ztaped, .ref n_isThere, .ref n_size, .ref n_depth, .ref n_memory, .ref n_register, .ref n_mode, .ref n_pc, .ref n_base, .ref n_bound, .ref n_timer, .ref n_ranOut, .ref n_halted, .ref n_steps, .ref n_outs, .ref n_output, .ref n_waits, .ref n_typed, .ref n_disk, .ref n_wants, .int zat, .int zend, .int zline, .ref n_labelFrom, .ref n_labelSize, .ref n_labelAddress, .int zlabels, .int zfault, .int zfaultLine, .int zisTold, .int zaddress, .ref n_made, .int zmissing, .int zgood, .int zvalue, .int zvalueFrom, .int zvalueSize, .int zme])), (n_memory, .inl (E.2.1 0, 3072, .inl o_zmemory)), (n_register, .inl (E.2.1 0, 24, .inl o_zregister)), (n_mode, .inl (E.2.1 0, 3, .inl o_zmode)), (n_pc, .inl (E.2.1 0, 3, .inl o_zpc)), (n_base, .inl (E.2.1 0, 3, .inl o_zbase)), (n_bound, .inl (E.2.1 0, 3, .inl o_zbound)), (n_timer, .inl (E.2.1 0, 3, .inl o_ztimer)), (n_ranOut, .inl (E.2.1 3, 3, .inl o_zranOut)), (n_halted, .inl (E.2.1 3, 3, .inl o_zhalted)), (n_outs, .inl (E.2.1 0, 3, .inl o_zouts)), (n_output, .inl (E.2.1 0, 1500, .inl o_zoutput)), (n_waits, .inl (E.2.1 0, 3, .inl o_zwaits)), (n_typed, .inl (E.2.1 0, 300, .inl o_ztyped)), (n_disk, .inl (E.2.1 0, 384, .inl o_zdisk))] := by
  refine jw (by decide +kernel) (Nat.le_of_ble_eq_true rfl) ?_
  intro p e s m below meth c A ls J hJ hAe hsz hA hZ hP hD hl
  rw [← hAe]
  have hS : va_S A s.heap s.heap [] := va_S.rf
  have hl : lv_has ls 10 [(0, .ref n0), (1, .int p1), (2, .int p2), (3, .int p3), (4, .int p4), (5, .int p5), (6, .int p6)] := hl
  unfold f_MD_does at h
  refine lv_bipush (v := 8) J.1 J.2.1 d_MD_does_0 (by decide) ?_
  refine lv_aload_n J.1 J.2.1 d_MD_does_2 rfl (lv_at hl 0 rfl) ?_
  refine jg J hJ hP 0 rfl rfl i_MD 38 (by decide) gf_MD_261 rfl d_MD_does_3 ?_
  refine lv_imul J.1 J.2.1 d_MD_does_6 ?_
  refine lv_iload_n J.1 J.2.1 d_MD_does_7 rfl (lv_at hl 2 rfl) ?_
  refine lv_iadd J.1 J.2.1 d_MD_does_8 ?_
  refine lv_istore (lv' := [(7, .int ((8 * zme) + p2)), (0, .ref n0), (1, .int p1), (2, .int p2), (3, .int p3), (4, .int p4), (5, .int p5), (6, .int p6)]) J.1 J.2.1 d_MD_does_9 hl (by decide) rfl ?_
  clear hl
  intro ls hl
  refine lv_aload_n J.1 J.2.1 d_MD_does_11 rfl (lv_at hl 1 rfl) ?_
  refine jg J hJ hP 0 rfl rfl i_MD 6 (by decide) gf_MD_35 rfl d_MD_does_12 ?_
  refine lv_iload J.1 J.2.1 d_MD_does_15 (lv_at hl 0 rfl) ?_
  replace h := g_ck h
  obtain ⟨k_1, h⟩ := h
  refine jai J hJ hP 2 rfl k_1 d_MD_does_17 ?_
  refine lv_istore (lv' := [(8, .int (zregister ((8 * zme) + p2).toNatClampNeg)), (7, .int ((8 * zme) + p2)), (0, .ref n0), (1, .int p1), (2, .int p2), (3, .int p3), (4, .int p4), (5, .int p5), (6, .int p6)]) J.1 J.2.1 d_MD_does_18 hl (by decide) rfl ?_
  clear hl
  intro ls hl
  refine lv_aload_n J.1 J.2.1 d_MD_does_20 rfl (lv_at hl 2 rfl) ?_
  refine jg J hJ hP 0 rfl rfl i_MD 6 (by decide) gf_MD_35 rfl d_MD_does_21 ?_
  refine lv_bipush (v := 8) J.1 J.2.1 d_MD_does_24 (by decide) ?_
  refine lv_aload_n J.1 J.2.1 d_MD_does_26 rfl (lv_at hl 2 rfl) ?_
  refine jg J hJ hP 0 rfl rfl i_MD 38 (by decide) gf_MD_261 rfl d_MD_does_27 ?_
  refine lv_imul J.1 J.2.1 d_MD_does_30 ?_
  refine lv_iload_n J.1 J.2.1 d_MD_does_31 rfl (lv_at hl 5 rfl) ?_
  refine lv_iadd J.1 J.2.1 d_MD_does_32 ?_
  replace h := g_ck h
  obtain ⟨k_2, h⟩ := h
  refine jai J hJ hP 2 rfl k_2 d_MD_does_33 ?_
  refine lv_istore (lv' := [(9, .int (zregister ((8 * zme) + p3).toNatClampNeg)), (8, .int (zregister ((8 * zme) + p2).toNatClampNeg)), (7, .int ((8 * zme) + p2)), (0, .ref n0), (1, .int p1), (2, .int p2), (3, .int p3), (4, .int p4), (5, .int p5), (6, .int p6)]) J.1 J.2.1 d_MD_does_34 hl (by decide) rfl ?_
  clear hl
  intro ls hl
  refine lv_iload_n J.1 J.2.1 d_MD_does_36 rfl (lv_at hl 4 rfl) ?_
  by_cases c_3 : (p1) = 0
  · replace h := g_t c_3 h
    refine lv_tableIn (off := 79) (tgt := 116) J.1 J.2.1 d_MD_does_37 (by rw [c_3]; decide) (by rw [c_3]; decide) (by rw [c_3]; rfl) (by decide) ?_
    refine lv_aload_n J.1 J.2.1 d_MD_does_116 rfl (lv_at hl 3 rfl) ?_
    refine jg J hJ hP 0 rfl rfl i_MD 13 (by decide) gf_MD_56 rfl d_MD_does_117 ?_
    refine lv_aload_n J.1 J.2.1 d_MD_does_120 rfl (lv_at hl 3 rfl) ?_
    refine jg J hJ hP 0 rfl rfl i_MD 38 (by decide) gf_MD_261 rfl d_MD_does_121 ?_
    refine lv_iconst (v := 1) J.1 J.2.1 d_MD_does_124 (by decide) ?_
    replace h := g_ck h
    obtain ⟨k_4, h⟩ := h
    refine va_zast J.1 J.2.1 hJ.1 hP hD hS 9 3 rfl rfl k_4 d_MD_does_125 ?_
    clear hP hD hS
    intro H locs hP hD hS
    have hP : va_P E.1 classes [(n0, .inr (6, [.ref n_tape, .int ztaped, .ref n_isThere, .ref n_size, .ref n_depth, .ref n_memory, .ref n_register, .ref n_mode, .ref n_pc, .ref n_base, .ref n_bound, .ref n_timer, .ref n_ranOut, .ref n_halted, .ref n_steps, .ref n_outs, .ref n_output, .ref n_waits, .ref n_typed, .ref n_disk, .ref n_wants, .int zat, .int zend, .int zline, .ref n_labelFrom, .ref n_labelSize, .ref n_labelAddress, .int zlabels, .int zfault, .int zfaultLine, .int zisTold, .int zaddress, .ref n_made, .int zmissing, .int zgood, .int zvalue, .int zvalueFrom, .int zvalueSize, .int zme])), (n_memory, .inl (E.2.1 0, 3072, .inl zmemory)), (n_register, .inl (E.2.1 0, 24, .inl zregister)), (n_mode, .inl (E.2.1 0, 3, .inl zmode)), (n_pc, .inl (E.2.1 0, 3, .inl zpc)), (n_base, .inl (E.2.1 0, 3, .inl zbase)), (n_bound, .inl (E.2.1 0, 3, .inl zbound)), (n_timer, .inl (E.2.1 0, 3, .inl ztimer)), (n_ranOut, .inl (E.2.1 3, 3, .inl zranOut)), (n_halted, .inl (E.2.1 3, 3, .inl (upd zhalted zme.toNatClampNeg (vp_nar .boolean 1)))), (n_outs, .inl (E.2.1 0, 3, .inl zouts)), (n_output, .inl (E.2.1 0, 1500, .inl zoutput)), (n_waits, .inl (E.2.1 0, 3, .inl zwaits)), (n_typed, .inl (E.2.1 0, 300, .inl ztyped)), (n_disk, .inl (E.2.1 0, 384, .inl zdisk))] H := hP
    have hD : va_D A [(n0, .inr (6, [.ref n_tape, .int ztaped, .ref n_isThere, .ref n_size, .ref n_depth, .ref n_memory, .ref n_register, .ref n_mode, .ref n_pc, .ref n_base, .ref n_bound, .ref n_timer, .ref n_ranOut, .ref n_halted, .ref n_steps, .ref n_outs, .ref n_output, .ref n_waits, .ref n_typed, .ref n_disk, .ref n_wants, .int zat, .int zend, .int zline, .ref n_labelFrom, .ref n_labelSize, .ref n_labelAddress, .int zlabels, .int zfault, .int zfaultLine, .int zisTold, .int zaddress, .ref n_made, .int zmissing, .int zgood, .int zvalue, .int zvalueFrom, .int zvalueSize, .int zme])), (n_memory, .inl (E.2.1 0, 3072, .inl zmemory)), (n_register, .inl (E.2.1 0, 24, .inl zregister)), (n_mode, .inl (E.2.1 0, 3, .inl zmode)), (n_pc, .inl (E.2.1 0, 3, .inl zpc)), (n_base, .inl (E.2.1 0, 3, .inl zbase)), (n_bound, .inl (E.2.1 0, 3, .inl zbound)), (n_timer, .inl (E.2.1 0, 3, .inl ztimer)), (n_ranOut, .inl (E.2.1 3, 3, .inl zranOut)), (n_halted, .inl (E.2.1 3, 3, .inl (upd zhalted zme.toNatClampNeg (vp_nar .boolean 1)))), (n_outs, .inl (E.2.1 0, 3, .inl zouts)), (n_output, .inl (E.2.1 0, 1500, .inl zoutput)), (n_waits, .inl (E.2.1 0, 3, .inl zwaits)), (n_typed, .inl (E.2.1 0, 300, .inl ztyped)), (n_disk, .inl (E.2.1 0, 384, .inl zdisk))] := hD
    refine lv_aload_n J.1 J.2.1 d_MD_does_126 rfl (lv_at hl 3 rfl) ?_
    refine jg J hJ hP 0 rfl rfl i_MD 8 (by decide) gf_MD_41 rfl d_MD_does_127 ?_
    refine lv_aload_n J.1 J.2.1 d_MD_does_130 rfl (lv_at hl 3 rfl) ?_
    refine jg J hJ hP 0 rfl rfl i_MD 38 (by decide) gf_MD_261 rfl d_MD_does_131 ?_
    refine lv_iload J.1 J.2.1 d_MD_does_134 (lv_at hl 9 rfl) ?_
    replace h := g_ck h
    obtain ⟨k_5, h⟩ := h
    refine jsi J hJ hP hD hS 4 rfl k_5 d_MD_does_136 (WS' := [(n0, .inr (6, [.ref n_tape, .int ztaped, .ref n_isThere, .ref n_size, .ref n_depth, .ref n_memory, .ref n_register, .ref n_mode, .ref n_pc, .ref n_base, .ref n_bound, .ref n_timer, .ref n_ranOut, .ref n_halted, .ref n_steps, .ref n_outs, .ref n_output, .ref n_waits, .ref n_typed, .ref n_disk, .ref n_wants, .int zat, .int zend, .int zline, .ref n_labelFrom, .ref n_labelSize, .ref n_labelAddress, .int zlabels, .int zfault, .int zfaultLine, .int zisTold, .int zaddress, .ref n_made, .int zmissing, .int zgood, .int zvalue, .int zvalueFrom, .int zvalueSize, .int zme])), (n_memory, .inl (E.2.1 0, 3072, .inl zmemory)), (n_register, .inl (E.2.1 0, 24, .inl zregister)), (n_mode, .inl (E.2.1 0, 3, .inl zmode)), (n_pc, .inl (E.2.1 0, 3, .inl (upd zpc zme.toNatClampNeg p6))), (n_base, .inl (E.2.1 0, 3, .inl zbase)), (n_bound, .inl (E.2.1 0, 3, .inl zbound)), (n_timer, .inl (E.2.1 0, 3, .inl ztimer)), (n_ranOut, .inl (E.2.1 3, 3, .inl zranOut)), (n_halted, .inl (E.2.1 3, 3, .inl (upd zhalted zme.toNatClampNeg (vp_nar .boolean 1)))), (n_outs, .inl (E.2.1 0, 3, .inl zouts)), (n_output, .inl (E.2.1 0, 1500, .inl zoutput)), (n_waits, .inl (E.2.1 0, 3, .inl zwaits)), (n_typed, .inl (E.2.1 0, 300, .inl ztyped)), (n_disk, .inl (E.2.1 0, 384, .inl zdisk))]) rfl ?_
    clear hP hD hS
    intro H locs hP hD hS
    refine lv_goto (tgt := 394) J.1 J.2.1 d_MD_does_137 (by decide) ?_
    have h := Option.some.inj h
    have e_0 := (Prod.mk.inj h).1
    have h := (Prod.mk.inj h).2
    have e_1 := (Prod.mk.inj h).1
    have h := (Prod.mk.inj h).2
    have e_2 := (Prod.mk.inj h).1
    have h := (Prod.mk.inj h).2
    have e_3 := (Prod.mk.inj h).1
    have h := (Prod.mk.inj h).2
    have e_4 := (Prod.mk.inj h).1
    have h := (Prod.mk.inj h).2
    have e_5 := (Prod.mk.inj h).1
    have h := (Prod.mk.inj h).2
    have e_6 := (Prod.mk.inj h).1
    have h := (Prod.mk.inj h).2
    have e_7 := (Prod.mk.inj h).1
    have h := (Prod.mk.inj h).2
    have e_8 := (Prod.mk.inj h).1
    have h := (Prod.mk.inj h).2
    have e_9 := (Prod.mk.inj h).1
    have h := (Prod.mk.inj h).2
    have e_10 := (Prod.mk.inj h).1
    have h := (Prod.mk.inj h).2
    have e_11 := (Prod.mk.inj h).1
    have h := (Prod.mk.inj h).2
    have e_12 := (Prod.mk.inj h).1
    have h := (Prod.mk.inj h).2
    rw [← e_0, ← e_1, ← e_2, ← e_3, ← e_4, ← e_5, ← e_6, ← e_7, ← e_8, ← e_9, ← e_10, ← e_11, ← e_12, ← h]
    exact jr_v J hS hP hD d_MD_does_394
  replace h := g_f c_3 h
  by_cases c_6 : (p1) = 1
  · replace h := g_t c_6 h
    refine lv_tableIn (off := 103) (tgt := 140) J.1 J.2.1 d_MD_does_37 (by rw [c_6]; decide) (by rw [c_6]; decide) (by rw [c_6]; rfl) (by decide) ?_
    refine lv_aload_n J.1 J.2.1 d_MD_does_140 rfl (lv_at hl 3 rfl) ?_
    refine jg J hJ hP 0 rfl rfl i_MD 6 (by decide) gf_MD_35 rfl d_MD_does_141 ?_
    refine lv_iload J.1 J.2.1 d_MD_does_144 (lv_at hl 2 rfl) ?_
    refine lv_iload J.1 J.2.1 d_MD_does_146 (lv_at hl 7 rfl) ?_
    replace h := g_ck h
    obtain ⟨k_7, h⟩ := h
    refine jsi J hJ hP hD hS 2 rfl k_7 d_MD_does_148 (WS' := [(n0, .inr (6, [.ref n_tape, .int ztaped, .ref n_isThere, .ref n_size, .ref n_depth, .ref n_memory, .ref n_register, .ref n_mode, .ref n_pc, .ref n_base, .ref n_bound, .ref n_timer, .ref n_ranOut, .ref n_halted, .ref n_steps, .ref n_outs, .ref n_output, .ref n_waits, .ref n_typed, .ref n_disk, .ref n_wants, .int zat, .int zend, .int zline, .ref n_labelFrom, .ref n_labelSize, .ref n_labelAddress, .int zlabels, .int zfault, .int zfaultLine, .int zisTold, .int zaddress, .ref n_made, .int zmissing, .int zgood, .int zvalue, .int zvalueFrom, .int zvalueSize, .int zme])), (n_memory, .inl (E.2.1 0, 3072, .inl zmemory)), (n_register, .inl (E.2.1 0, 24, .inl (upd zregister ((8 * zme) + p2).toNatClampNeg p4))), (n_mode, .inl (E.2.1 0, 3, .inl zmode)), (n_pc, .inl (E.2.1 0, 3, .inl zpc)), (n_base, .inl (E.2.1 0, 3, .inl zbase)), (n_bound, .inl (E.2.1 0, 3, .inl zbound)), (n_timer, .inl (E.2.1 0, 3, .inl ztimer)), (n_ranOut, .inl (E.2.1 3, 3, .inl zranOut)), (n_halted, .inl (E.2.1 3, 3, .inl zhalted)), (n_outs, .inl (E.2.1 0, 3, .inl zouts)), (n_output, .inl (E.2.1 0, 1500, .inl zoutput)), (n_waits, .inl (E.2.1 0, 3, .inl zwaits)), (n_typed, .inl (E.2.1 0, 300, .inl ztyped)), (n_disk, .inl (E.2.1 0, 384, .inl zdisk))]) rfl ?_
    clear hP hD hS
    intro H locs hP hD hS
    refine lv_goto (tgt := 394) J.1 J.2.1 d_MD_does_149 (by decide) ?_
    have h := Option.some.inj h
    have e_0 := (Prod.mk.inj h).1
    have h := (Prod.mk.inj h).2
    have e_1 := (Prod.mk.inj h).1
    have h := (Prod.mk.inj h).2
    have e_2 := (Prod.mk.inj h).1
    have h := (Prod.mk.inj h).2
    have e_3 := (Prod.mk.inj h).1
    have h := (Prod.mk.inj h).2
    have e_4 := (Prod.mk.inj h).1
    have h := (Prod.mk.inj h).2
    have e_5 := (Prod.mk.inj h).1
    have h := (Prod.mk.inj h).2
    have e_6 := (Prod.mk.inj h).1
    have h := (Prod.mk.inj h).2
    have e_7 := (Prod.mk.inj h).1
    have h := (Prod.mk.inj h).2
    have e_8 := (Prod.mk.inj h).1
    have h := (Prod.mk.inj h).2
    have e_9 := (Prod.mk.inj h).1
    have h := (Prod.mk.inj h).2
    have e_10 := (Prod.mk.inj h).1
    have h := (Prod.mk.inj h).2
    have e_11 := (Prod.mk.inj h).1
    have h := (Prod.mk.inj h).2
    have e_12 := (Prod.mk.inj h).1
    have h := (Prod.mk.inj h).2
    rw [← e_0, ← e_1, ← e_2, ← e_3, ← e_4, ← e_5, ← e_6, ← e_7, ← e_8, ← e_9, ← e_10, ← e_11, ← e_12, ← h]
    exact jr_v J hS hP hD d_MD_does_394
  replace h := g_f c_6 h
  by_cases c_8 : (p1) = 2
  · replace h := g_t c_8 h
    refine lv_tableIn (off := 115) (tgt := 152) J.1 J.2.1 d_MD_does_37 (by rw [c_8]; decide) (by rw [c_8]; decide) (by rw [c_8]; rfl) (by decide) ?_
    refine lv_aload_n J.1 J.2.1 d_MD_does_152 rfl (lv_at hl 3 rfl) ?_
    refine jg J hJ hP 0 rfl rfl i_MD 6 (by decide) gf_MD_35 rfl d_MD_does_153 ?_
    refine lv_iload J.1 J.2.1 d_MD_does_156 (lv_at hl 2 rfl) ?_
    refine lv_aload_n J.1 J.2.1 d_MD_does_158 rfl (lv_at hl 3 rfl) ?_
    refine lv_iload J.1 J.2.1 d_MD_does_159 (lv_at hl 8 rfl) ?_
    replace h := g_bd h
    obtain ⟨r_9, q_9, h⟩ := h
    have hq := ct_MD_get l E n0 n_base n_bound n_depth n_disk n_halted n_isThere n_labelAddress n_labelFrom n_labelSize n_made n_memory n_mode n_output n_outs n_pc n_ranOut n_register n_size n_steps n_tape n_timer n_typed n_waits n_wants s.heap.size ztaped zat zend zline zlabels zfault zfaultLine zisTold zaddress zmissing zgood zvalue zvalueFrom zvalueSize zme zmemory zbase p5 r_9 q_9
    have hr := jrunV (p := p) (e := e) (below := below) (R := ({ frames := 2, cells := 0, slots := 0, locals := 53 })) (cells := 0) (slots := 0) (As := [.int p5]) (rest := [.int ((8 * zme) + p2), .ref n_register]) J hJ hA hZ hP hD hS hq [0, 1, 5] rfl (by decide) gl_MD_273 gi_MD_get gsel_MD_get gini_MD gc_MD_get hd_MD_get ⟨rfl, rfl, Nat.le_of_ble_eq_true rfl, Nat.le_of_ble_eq_true rfl⟩ rfl rfl hl.1 rfl rfl (Nat.le_of_ble_eq_true rfl) d_MD_does_161 ⟨Nat.zero_le _, Nat.zero_le _⟩
    clear hq
    refine jk_i hr hA hP hD hS [0, 1, 5] [2, 3, 4, 6, 7, 8, 9, 10, 11, 12, 13, 14] (WR := [(n_register, .inl (E.2.1 0, 24, .inl zregister)), (n_mode, .inl (E.2.1 0, 3, .inl zmode)), (n_pc, .inl (E.2.1 0, 3, .inl zpc)), (n_bound, .inl (E.2.1 0, 3, .inl zbound)), (n_timer, .inl (E.2.1 0, 3, .inl ztimer)), (n_ranOut, .inl (E.2.1 3, 3, .inl zranOut)), (n_halted, .inl (E.2.1 3, 3, .inl zhalted)), (n_outs, .inl (E.2.1 0, 3, .inl zouts)), (n_output, .inl (E.2.1 0, 1500, .inl zoutput)), (n_waits, .inl (E.2.1 0, 3, .inl zwaits)), (n_typed, .inl (E.2.1 0, 300, .inl ztyped)), (n_disk, .inl (E.2.1 0, 384, .inl zdisk))]) rfl rfl (by decide) (by decide) [12, 13, 0, 1, 2, 14, 3, 4, 5, 6, 7, 8, 9, 10, 11] (WF := [(n0, .inr (6, [.ref n_tape, .int ztaped, .ref n_isThere, .ref n_size, .ref n_depth, .ref n_memory, .ref n_register, .ref n_mode, .ref n_pc, .ref n_base, .ref n_bound, .ref n_timer, .ref n_ranOut, .ref n_halted, .ref n_steps, .ref n_outs, .ref n_output, .ref n_waits, .ref n_typed, .ref n_disk, .ref n_wants, .int zat, .int zend, .int zline, .ref n_labelFrom, .ref n_labelSize, .ref n_labelAddress, .int zlabels, .int zfault, .int zfaultLine, .int zisTold, .int zaddress, .ref n_made, .int zmissing, .int zgood, .int zvalue, .int zvalueFrom, .int zvalueSize, .int zme])), (n_memory, .inl (E.2.1 0, 3072, .inl zmemory)), (n_register, .inl (E.2.1 0, 24, .inl zregister)), (n_mode, .inl (E.2.1 0, 3, .inl zmode)), (n_pc, .inl (E.2.1 0, 3, .inl zpc)), (n_base, .inl (E.2.1 0, 3, .inl zbase)), (n_bound, .inl (E.2.1 0, 3, .inl zbound)), (n_timer, .inl (E.2.1 0, 3, .inl ztimer)), (n_ranOut, .inl (E.2.1 3, 3, .inl zranOut)), (n_halted, .inl (E.2.1 3, 3, .inl zhalted)), (n_outs, .inl (E.2.1 0, 3, .inl zouts)), (n_output, .inl (E.2.1 0, 1500, .inl zoutput)), (n_waits, .inl (E.2.1 0, 3, .inl zwaits)), (n_typed, .inl (E.2.1 0, 300, .inl ztyped)), (n_disk, .inl (E.2.1 0, 384, .inl zdisk))]) rfl (by decide) ?_
    clear hP hD hS
    intro H locs hP hD hS
    clear hr
    replace h := g_ck h
    obtain ⟨k_10, h⟩ := h
    refine jsi J hJ hP hD hS 2 rfl k_10 d_MD_does_164 (WS' := [(n0, .inr (6, [.ref n_tape, .int ztaped, .ref n_isThere, .ref n_size, .ref n_depth, .ref n_memory, .ref n_register, .ref n_mode, .ref n_pc, .ref n_base, .ref n_bound, .ref n_timer, .ref n_ranOut, .ref n_halted, .ref n_steps, .ref n_outs, .ref n_output, .ref n_waits, .ref n_typed, .ref n_disk, .ref n_wants, .int zat, .int zend, .int zline, .ref n_labelFrom, .ref n_labelSize, .ref n_labelAddress, .int zlabels, .int zfault, .int zfaultLine, .int zisTold, .int zaddress, .ref n_made, .int zmissing, .int zgood, .int zvalue, .int zvalueFrom, .int zvalueSize, .int zme])), (n_memory, .inl (E.2.1 0, 3072, .inl zmemory)), (n_register, .inl (E.2.1 0, 24, .inl (upd zregister ((8 * zme) + p2).toNatClampNeg r_9))), (n_mode, .inl (E.2.1 0, 3, .inl zmode)), (n_pc, .inl (E.2.1 0, 3, .inl zpc)), (n_base, .inl (E.2.1 0, 3, .inl zbase)), (n_bound, .inl (E.2.1 0, 3, .inl zbound)), (n_timer, .inl (E.2.1 0, 3, .inl ztimer)), (n_ranOut, .inl (E.2.1 3, 3, .inl zranOut)), (n_halted, .inl (E.2.1 3, 3, .inl zhalted)), (n_outs, .inl (E.2.1 0, 3, .inl zouts)), (n_output, .inl (E.2.1 0, 1500, .inl zoutput)), (n_waits, .inl (E.2.1 0, 3, .inl zwaits)), (n_typed, .inl (E.2.1 0, 300, .inl ztyped)), (n_disk, .inl (E.2.1 0, 384, .inl zdisk))]) rfl ?_
    clear hP hD hS
    intro H locs hP hD hS
    refine lv_goto (tgt := 394) J.1 J.2.1 d_MD_does_165 (by decide) ?_
    have h := Option.some.inj h
    have e_0 := (Prod.mk.inj h).1
    have h := (Prod.mk.inj h).2
    have e_1 := (Prod.mk.inj h).1
    have h := (Prod.mk.inj h).2
    have e_2 := (Prod.mk.inj h).1
    have h := (Prod.mk.inj h).2
    have e_3 := (Prod.mk.inj h).1
    have h := (Prod.mk.inj h).2
    have e_4 := (Prod.mk.inj h).1
    have h := (Prod.mk.inj h).2
    have e_5 := (Prod.mk.inj h).1
    have h := (Prod.mk.inj h).2
    have e_6 := (Prod.mk.inj h).1
    have h := (Prod.mk.inj h).2
    have e_7 := (Prod.mk.inj h).1
    have h := (Prod.mk.inj h).2
    have e_8 := (Prod.mk.inj h).1
    have h := (Prod.mk.inj h).2
    have e_9 := (Prod.mk.inj h).1
    have h := (Prod.mk.inj h).2
    have e_10 := (Prod.mk.inj h).1
    have h := (Prod.mk.inj h).2
    have e_11 := (Prod.mk.inj h).1
    have h := (Prod.mk.inj h).2
    have e_12 := (Prod.mk.inj h).1
    have h := (Prod.mk.inj h).2
    rw [← e_0, ← e_1, ← e_2, ← e_3, ← e_4, ← e_5, ← e_6, ← e_7, ← e_8, ← e_9, ← e_10, ← e_11, ← e_12, ← h]
    exact jr_v J hS hP hD d_MD_does_394
  replace h := g_f c_8 h
  by_cases c_11 : (p1) = 3
  · replace h := g_t c_11 h
    refine lv_tableIn (off := 131) (tgt := 168) J.1 J.2.1 d_MD_does_37 (by rw [c_11]; decide) (by rw [c_11]; decide) (by rw [c_11]; rfl) (by decide) ?_
    refine lv_aload_n J.1 J.2.1 d_MD_does_168 rfl (lv_at hl 3 rfl) ?_
    refine lv_iload J.1 J.2.1 d_MD_does_169 (lv_at hl 8 rfl) ?_
    refine lv_iload J.1 J.2.1 d_MD_does_171 (lv_at hl 1 rfl) ?_
    replace h := g_bd h
    obtain ⟨zmemory_12, q_12, h⟩ := h
    have hq := ct_MD_set l E n0 n_base n_bound n_depth n_disk n_halted n_isThere n_labelAddress n_labelFrom n_labelSize n_made n_memory n_mode n_output n_outs n_pc n_ranOut n_register n_size n_steps n_tape n_timer n_typed n_waits n_wants s.heap.size ztaped zat zend zline zlabels zfault zfaultLine zisTold zaddress zmissing zgood zvalue zvalueFrom zvalueSize zme zmemory zbase p5 (zregister ((8 * zme) + p2).toNatClampNeg) zmemory_12 q_12
    have hr := jrunV (p := p) (e := e) (below := below) (R := ({ frames := 2, cells := 0, slots := 0, locals := 53 })) (cells := 0) (slots := 0) (As := [.int p5, .int (zregister ((8 * zme) + p2).toNatClampNeg)]) (rest := []) J hJ hA hZ hP hD hS hq [0, 1, 5] rfl (by decide) gl_MD_280 gi_MD_set gsel_MD_set gini_MD gc_MD_set hd_MD_set ⟨rfl, rfl, Nat.le_of_ble_eq_true rfl, Nat.le_of_ble_eq_true rfl⟩ rfl rfl hl.1 rfl rfl (Nat.le_of_ble_eq_true rfl) d_MD_does_173 ⟨Nat.zero_le _, Nat.zero_le _⟩
    clear hq
    refine jk_v hr hA hP hD hS [0, 1, 5] [2, 3, 4, 6, 7, 8, 9, 10, 11, 12, 13, 14] (WR := [(n_register, .inl (E.2.1 0, 24, .inl zregister)), (n_mode, .inl (E.2.1 0, 3, .inl zmode)), (n_pc, .inl (E.2.1 0, 3, .inl zpc)), (n_bound, .inl (E.2.1 0, 3, .inl zbound)), (n_timer, .inl (E.2.1 0, 3, .inl ztimer)), (n_ranOut, .inl (E.2.1 3, 3, .inl zranOut)), (n_halted, .inl (E.2.1 3, 3, .inl zhalted)), (n_outs, .inl (E.2.1 0, 3, .inl zouts)), (n_output, .inl (E.2.1 0, 1500, .inl zoutput)), (n_waits, .inl (E.2.1 0, 3, .inl zwaits)), (n_typed, .inl (E.2.1 0, 300, .inl ztyped)), (n_disk, .inl (E.2.1 0, 384, .inl zdisk))]) rfl rfl (by decide) (by decide) [12, 13, 0, 1, 2, 14, 3, 4, 5, 6, 7, 8, 9, 10, 11] (WF := [(n0, .inr (6, [.ref n_tape, .int ztaped, .ref n_isThere, .ref n_size, .ref n_depth, .ref n_memory, .ref n_register, .ref n_mode, .ref n_pc, .ref n_base, .ref n_bound, .ref n_timer, .ref n_ranOut, .ref n_halted, .ref n_steps, .ref n_outs, .ref n_output, .ref n_waits, .ref n_typed, .ref n_disk, .ref n_wants, .int zat, .int zend, .int zline, .ref n_labelFrom, .ref n_labelSize, .ref n_labelAddress, .int zlabels, .int zfault, .int zfaultLine, .int zisTold, .int zaddress, .ref n_made, .int zmissing, .int zgood, .int zvalue, .int zvalueFrom, .int zvalueSize, .int zme])), (n_memory, .inl (E.2.1 0, 3072, .inl zmemory_12)), (n_register, .inl (E.2.1 0, 24, .inl zregister)), (n_mode, .inl (E.2.1 0, 3, .inl zmode)), (n_pc, .inl (E.2.1 0, 3, .inl zpc)), (n_base, .inl (E.2.1 0, 3, .inl zbase)), (n_bound, .inl (E.2.1 0, 3, .inl zbound)), (n_timer, .inl (E.2.1 0, 3, .inl ztimer)), (n_ranOut, .inl (E.2.1 3, 3, .inl zranOut)), (n_halted, .inl (E.2.1 3, 3, .inl zhalted)), (n_outs, .inl (E.2.1 0, 3, .inl zouts)), (n_output, .inl (E.2.1 0, 1500, .inl zoutput)), (n_waits, .inl (E.2.1 0, 3, .inl zwaits)), (n_typed, .inl (E.2.1 0, 300, .inl ztyped)), (n_disk, .inl (E.2.1 0, 384, .inl zdisk))]) rfl (by decide) ?_
    clear hP hD hS
    intro H locs hP hD hS
    clear hr
    refine lv_goto (tgt := 394) J.1 J.2.1 d_MD_does_176 (by decide) ?_
    have h := Option.some.inj h
    have e_0 := (Prod.mk.inj h).1
    have h := (Prod.mk.inj h).2
    have e_1 := (Prod.mk.inj h).1
    have h := (Prod.mk.inj h).2
    have e_2 := (Prod.mk.inj h).1
    have h := (Prod.mk.inj h).2
    have e_3 := (Prod.mk.inj h).1
    have h := (Prod.mk.inj h).2
    have e_4 := (Prod.mk.inj h).1
    have h := (Prod.mk.inj h).2
    have e_5 := (Prod.mk.inj h).1
    have h := (Prod.mk.inj h).2
    have e_6 := (Prod.mk.inj h).1
    have h := (Prod.mk.inj h).2
    have e_7 := (Prod.mk.inj h).1
    have h := (Prod.mk.inj h).2
    have e_8 := (Prod.mk.inj h).1
    have h := (Prod.mk.inj h).2
    have e_9 := (Prod.mk.inj h).1
    have h := (Prod.mk.inj h).2
    have e_10 := (Prod.mk.inj h).1
    have h := (Prod.mk.inj h).2
    have e_11 := (Prod.mk.inj h).1
    have h := (Prod.mk.inj h).2
    have e_12 := (Prod.mk.inj h).1
    have h := (Prod.mk.inj h).2
    rw [← e_0, ← e_1, ← e_2, ← e_3, ← e_4, ← e_5, ← e_6, ← e_7, ← e_8, ← e_9, ← e_10, ← e_11, ← e_12, ← h]
    exact jr_v J hS hP hD d_MD_does_394
  replace h := g_f c_11 h
  by_cases c_13 : (p1) = 4
  · replace h := g_t c_13 h
    refine lv_tableIn (off := 115) (tgt := 152) J.1 J.2.1 d_MD_does_37 (by rw [c_13]; decide) (by rw [c_13]; decide) (by rw [c_13]; rfl) (by decide) ?_
    refine lv_aload_n J.1 J.2.1 d_MD_does_152 rfl (lv_at hl 3 rfl) ?_
    refine jg J hJ hP 0 rfl rfl i_MD 6 (by decide) gf_MD_35 rfl d_MD_does_153 ?_
    refine lv_iload J.1 J.2.1 d_MD_does_156 (lv_at hl 2 rfl) ?_
    refine lv_aload_n J.1 J.2.1 d_MD_does_158 rfl (lv_at hl 3 rfl) ?_
    refine lv_iload J.1 J.2.1 d_MD_does_159 (lv_at hl 8 rfl) ?_
    replace h := g_bd h
    obtain ⟨r_14, q_14, h⟩ := h
    have hq := ct_MD_get l E n0 n_base n_bound n_depth n_disk n_halted n_isThere n_labelAddress n_labelFrom n_labelSize n_made n_memory n_mode n_output n_outs n_pc n_ranOut n_register n_size n_steps n_tape n_timer n_typed n_waits n_wants s.heap.size ztaped zat zend zline zlabels zfault zfaultLine zisTold zaddress zmissing zgood zvalue zvalueFrom zvalueSize zme zmemory zbase p5 r_14 q_14
    have hr := jrunV (p := p) (e := e) (below := below) (R := ({ frames := 2, cells := 0, slots := 0, locals := 53 })) (cells := 0) (slots := 0) (As := [.int p5]) (rest := [.int ((8 * zme) + p2), .ref n_register]) J hJ hA hZ hP hD hS hq [0, 1, 5] rfl (by decide) gl_MD_273 gi_MD_get gsel_MD_get gini_MD gc_MD_get hd_MD_get ⟨rfl, rfl, Nat.le_of_ble_eq_true rfl, Nat.le_of_ble_eq_true rfl⟩ rfl rfl hl.1 rfl rfl (Nat.le_of_ble_eq_true rfl) d_MD_does_161 ⟨Nat.zero_le _, Nat.zero_le _⟩
    clear hq
    refine jk_i hr hA hP hD hS [0, 1, 5] [2, 3, 4, 6, 7, 8, 9, 10, 11, 12, 13, 14] (WR := [(n_register, .inl (E.2.1 0, 24, .inl zregister)), (n_mode, .inl (E.2.1 0, 3, .inl zmode)), (n_pc, .inl (E.2.1 0, 3, .inl zpc)), (n_bound, .inl (E.2.1 0, 3, .inl zbound)), (n_timer, .inl (E.2.1 0, 3, .inl ztimer)), (n_ranOut, .inl (E.2.1 3, 3, .inl zranOut)), (n_halted, .inl (E.2.1 3, 3, .inl zhalted)), (n_outs, .inl (E.2.1 0, 3, .inl zouts)), (n_output, .inl (E.2.1 0, 1500, .inl zoutput)), (n_waits, .inl (E.2.1 0, 3, .inl zwaits)), (n_typed, .inl (E.2.1 0, 300, .inl ztyped)), (n_disk, .inl (E.2.1 0, 384, .inl zdisk))]) rfl rfl (by decide) (by decide) [12, 13, 0, 1, 2, 14, 3, 4, 5, 6, 7, 8, 9, 10, 11] (WF := [(n0, .inr (6, [.ref n_tape, .int ztaped, .ref n_isThere, .ref n_size, .ref n_depth, .ref n_memory, .ref n_register, .ref n_mode, .ref n_pc, .ref n_base, .ref n_bound, .ref n_timer, .ref n_ranOut, .ref n_halted, .ref n_steps, .ref n_outs, .ref n_output, .ref n_waits, .ref n_typed, .ref n_disk, .ref n_wants, .int zat, .int zend, .int zline, .ref n_labelFrom, .ref n_labelSize, .ref n_labelAddress, .int zlabels, .int zfault, .int zfaultLine, .int zisTold, .int zaddress, .ref n_made, .int zmissing, .int zgood, .int zvalue, .int zvalueFrom, .int zvalueSize, .int zme])), (n_memory, .inl (E.2.1 0, 3072, .inl zmemory)), (n_register, .inl (E.2.1 0, 24, .inl zregister)), (n_mode, .inl (E.2.1 0, 3, .inl zmode)), (n_pc, .inl (E.2.1 0, 3, .inl zpc)), (n_base, .inl (E.2.1 0, 3, .inl zbase)), (n_bound, .inl (E.2.1 0, 3, .inl zbound)), (n_timer, .inl (E.2.1 0, 3, .inl ztimer)), (n_ranOut, .inl (E.2.1 3, 3, .inl zranOut)), (n_halted, .inl (E.2.1 3, 3, .inl zhalted)), (n_outs, .inl (E.2.1 0, 3, .inl zouts)), (n_output, .inl (E.2.1 0, 1500, .inl zoutput)), (n_waits, .inl (E.2.1 0, 3, .inl zwaits)), (n_typed, .inl (E.2.1 0, 300, .inl ztyped)), (n_disk, .inl (E.2.1 0, 384, .inl zdisk))]) rfl (by decide) ?_
    clear hP hD hS
    intro H locs hP hD hS
    clear hr
    replace h := g_ck h
    obtain ⟨k_15, h⟩ := h
    refine jsi J hJ hP hD hS 2 rfl k_15 d_MD_does_164 (WS' := [(n0, .inr (6, [.ref n_tape, .int ztaped, .ref n_isThere, .ref n_size, .ref n_depth, .ref n_memory, .ref n_register, .ref n_mode, .ref n_pc, .ref n_base, .ref n_bound, .ref n_timer, .ref n_ranOut, .ref n_halted, .ref n_steps, .ref n_outs, .ref n_output, .ref n_waits, .ref n_typed, .ref n_disk, .ref n_wants, .int zat, .int zend, .int zline, .ref n_labelFrom, .ref n_labelSize, .ref n_labelAddress, .int zlabels, .int zfault, .int zfaultLine, .int zisTold, .int zaddress, .ref n_made, .int zmissing, .int zgood, .int zvalue, .int zvalueFrom, .int zvalueSize, .int zme])), (n_memory, .inl (E.2.1 0, 3072, .inl zmemory)), (n_register, .inl (E.2.1 0, 24, .inl (upd zregister ((8 * zme) + p2).toNatClampNeg r_14))), (n_mode, .inl (E.2.1 0, 3, .inl zmode)), (n_pc, .inl (E.2.1 0, 3, .inl zpc)), (n_base, .inl (E.2.1 0, 3, .inl zbase)), (n_bound, .inl (E.2.1 0, 3, .inl zbound)), (n_timer, .inl (E.2.1 0, 3, .inl ztimer)), (n_ranOut, .inl (E.2.1 3, 3, .inl zranOut)), (n_halted, .inl (E.2.1 3, 3, .inl zhalted)), (n_outs, .inl (E.2.1 0, 3, .inl zouts)), (n_output, .inl (E.2.1 0, 1500, .inl zoutput)), (n_waits, .inl (E.2.1 0, 3, .inl zwaits)), (n_typed, .inl (E.2.1 0, 300, .inl ztyped)), (n_disk, .inl (E.2.1 0, 384, .inl zdisk))]) rfl ?_
    clear hP hD hS
    intro H locs hP hD hS
    refine lv_goto (tgt := 394) J.1 J.2.1 d_MD_does_165 (by decide) ?_
    have h := Option.some.inj h
    have e_0 := (Prod.mk.inj h).1
    have h := (Prod.mk.inj h).2
    have e_1 := (Prod.mk.inj h).1
    have h := (Prod.mk.inj h).2
    have e_2 := (Prod.mk.inj h).1
    have h := (Prod.mk.inj h).2
    have e_3 := (Prod.mk.inj h).1
    have h := (Prod.mk.inj h).2
    have e_4 := (Prod.mk.inj h).1
    have h := (Prod.mk.inj h).2
    have e_5 := (Prod.mk.inj h).1
    have h := (Prod.mk.inj h).2
    have e_6 := (Prod.mk.inj h).1
    have h := (Prod.mk.inj h).2
    have e_7 := (Prod.mk.inj h).1
    have h := (Prod.mk.inj h).2
    have e_8 := (Prod.mk.inj h).1
    have h := (Prod.mk.inj h).2
    have e_9 := (Prod.mk.inj h).1
    have h := (Prod.mk.inj h).2
    have e_10 := (Prod.mk.inj h).1
    have h := (Prod.mk.inj h).2
    have e_11 := (Prod.mk.inj h).1
    have h := (Prod.mk.inj h).2
    have e_12 := (Prod.mk.inj h).1
    have h := (Prod.mk.inj h).2
    rw [← e_0, ← e_1, ← e_2, ← e_3, ← e_4, ← e_5, ← e_6, ← e_7, ← e_8, ← e_9, ← e_10, ← e_11, ← e_12, ← h]
    exact jr_v J hS hP hD d_MD_does_394
  replace h := g_f c_13 h
  by_cases c_16 : (p1) = 5
  · replace h := g_t c_16 h
    refine lv_tableIn (off := 131) (tgt := 168) J.1 J.2.1 d_MD_does_37 (by rw [c_16]; decide) (by rw [c_16]; decide) (by rw [c_16]; rfl) (by decide) ?_
    refine lv_aload_n J.1 J.2.1 d_MD_does_168 rfl (lv_at hl 3 rfl) ?_
    refine lv_iload J.1 J.2.1 d_MD_does_169 (lv_at hl 8 rfl) ?_
    refine lv_iload J.1 J.2.1 d_MD_does_171 (lv_at hl 1 rfl) ?_
    replace h := g_bd h
    obtain ⟨zmemory_17, q_17, h⟩ := h
    have hq := ct_MD_set l E n0 n_base n_bound n_depth n_disk n_halted n_isThere n_labelAddress n_labelFrom n_labelSize n_made n_memory n_mode n_output n_outs n_pc n_ranOut n_register n_size n_steps n_tape n_timer n_typed n_waits n_wants s.heap.size ztaped zat zend zline zlabels zfault zfaultLine zisTold zaddress zmissing zgood zvalue zvalueFrom zvalueSize zme zmemory zbase p5 (zregister ((8 * zme) + p2).toNatClampNeg) zmemory_17 q_17
    have hr := jrunV (p := p) (e := e) (below := below) (R := ({ frames := 2, cells := 0, slots := 0, locals := 53 })) (cells := 0) (slots := 0) (As := [.int p5, .int (zregister ((8 * zme) + p2).toNatClampNeg)]) (rest := []) J hJ hA hZ hP hD hS hq [0, 1, 5] rfl (by decide) gl_MD_280 gi_MD_set gsel_MD_set gini_MD gc_MD_set hd_MD_set ⟨rfl, rfl, Nat.le_of_ble_eq_true rfl, Nat.le_of_ble_eq_true rfl⟩ rfl rfl hl.1 rfl rfl (Nat.le_of_ble_eq_true rfl) d_MD_does_173 ⟨Nat.zero_le _, Nat.zero_le _⟩
    clear hq
    refine jk_v hr hA hP hD hS [0, 1, 5] [2, 3, 4, 6, 7, 8, 9, 10, 11, 12, 13, 14] (WR := [(n_register, .inl (E.2.1 0, 24, .inl zregister)), (n_mode, .inl (E.2.1 0, 3, .inl zmode)), (n_pc, .inl (E.2.1 0, 3, .inl zpc)), (n_bound, .inl (E.2.1 0, 3, .inl zbound)), (n_timer, .inl (E.2.1 0, 3, .inl ztimer)), (n_ranOut, .inl (E.2.1 3, 3, .inl zranOut)), (n_halted, .inl (E.2.1 3, 3, .inl zhalted)), (n_outs, .inl (E.2.1 0, 3, .inl zouts)), (n_output, .inl (E.2.1 0, 1500, .inl zoutput)), (n_waits, .inl (E.2.1 0, 3, .inl zwaits)), (n_typed, .inl (E.2.1 0, 300, .inl ztyped)), (n_disk, .inl (E.2.1 0, 384, .inl zdisk))]) rfl rfl (by decide) (by decide) [12, 13, 0, 1, 2, 14, 3, 4, 5, 6, 7, 8, 9, 10, 11] (WF := [(n0, .inr (6, [.ref n_tape, .int ztaped, .ref n_isThere, .ref n_size, .ref n_depth, .ref n_memory, .ref n_register, .ref n_mode, .ref n_pc, .ref n_base, .ref n_bound, .ref n_timer, .ref n_ranOut, .ref n_halted, .ref n_steps, .ref n_outs, .ref n_output, .ref n_waits, .ref n_typed, .ref n_disk, .ref n_wants, .int zat, .int zend, .int zline, .ref n_labelFrom, .ref n_labelSize, .ref n_labelAddress, .int zlabels, .int zfault, .int zfaultLine, .int zisTold, .int zaddress, .ref n_made, .int zmissing, .int zgood, .int zvalue, .int zvalueFrom, .int zvalueSize, .int zme])), (n_memory, .inl (E.2.1 0, 3072, .inl zmemory_17)), (n_register, .inl (E.2.1 0, 24, .inl zregister)), (n_mode, .inl (E.2.1 0, 3, .inl zmode)), (n_pc, .inl (E.2.1 0, 3, .inl zpc)), (n_base, .inl (E.2.1 0, 3, .inl zbase)), (n_bound, .inl (E.2.1 0, 3, .inl zbound)), (n_timer, .inl (E.2.1 0, 3, .inl ztimer)), (n_ranOut, .inl (E.2.1 3, 3, .inl zranOut)), (n_halted, .inl (E.2.1 3, 3, .inl zhalted)), (n_outs, .inl (E.2.1 0, 3, .inl zouts)), (n_output, .inl (E.2.1 0, 1500, .inl zoutput)), (n_waits, .inl (E.2.1 0, 3, .inl zwaits)), (n_typed, .inl (E.2.1 0, 300, .inl ztyped)), (n_disk, .inl (E.2.1 0, 384, .inl zdisk))]) rfl (by decide) ?_
    clear hP hD hS
    intro H locs hP hD hS
    clear hr
    refine lv_goto (tgt := 394) J.1 J.2.1 d_MD_does_176 (by decide) ?_
    have h := Option.some.inj h
    have e_0 := (Prod.mk.inj h).1
    have h := (Prod.mk.inj h).2
    have e_1 := (Prod.mk.inj h).1
    have h := (Prod.mk.inj h).2
    have e_2 := (Prod.mk.inj h).1
    have h := (Prod.mk.inj h).2
    have e_3 := (Prod.mk.inj h).1
    have h := (Prod.mk.inj h).2
    have e_4 := (Prod.mk.inj h).1
    have h := (Prod.mk.inj h).2
    have e_5 := (Prod.mk.inj h).1
    have h := (Prod.mk.inj h).2
    have e_6 := (Prod.mk.inj h).1
    have h := (Prod.mk.inj h).2
    have e_7 := (Prod.mk.inj h).1
    have h := (Prod.mk.inj h).2
    have e_8 := (Prod.mk.inj h).1
    have h := (Prod.mk.inj h).2
    have e_9 := (Prod.mk.inj h).1
    have h := (Prod.mk.inj h).2
    have e_10 := (Prod.mk.inj h).1
    have h := (Prod.mk.inj h).2
    have e_11 := (Prod.mk.inj h).1
    have h := (Prod.mk.inj h).2
    have e_12 := (Prod.mk.inj h).1
    have h := (Prod.mk.inj h).2
    rw [← e_0, ← e_1, ← e_2, ← e_3, ← e_4, ← e_5, ← e_6, ← e_7, ← e_8, ← e_9, ← e_10, ← e_11, ← e_12, ← h]
    exact jr_v J hS hP hD d_MD_does_394
  replace h := g_f c_16 h
  by_cases c_18 : (p1) = 6
  · replace h := g_t c_18 h
    refine lv_tableIn (off := 142) (tgt := 179) J.1 J.2.1 d_MD_does_37 (by rw [c_18]; decide) (by rw [c_18]; decide) (by rw [c_18]; rfl) (by decide) ?_
    refine lv_aload_n J.1 J.2.1 d_MD_does_179 rfl (lv_at hl 3 rfl) ?_
    refine jg J hJ hP 0 rfl rfl i_MD 6 (by decide) gf_MD_35 rfl d_MD_does_180 ?_
    refine lv_iload J.1 J.2.1 d_MD_does_183 (lv_at hl 2 rfl) ?_
    refine lv_iload J.1 J.2.1 d_MD_does_185 (lv_at hl 0 rfl) ?_
    replace h := g_ck h
    obtain ⟨k_19, h⟩ := h
    refine jsi J hJ hP hD hS 2 rfl k_19 d_MD_does_187 (WS' := [(n0, .inr (6, [.ref n_tape, .int ztaped, .ref n_isThere, .ref n_size, .ref n_depth, .ref n_memory, .ref n_register, .ref n_mode, .ref n_pc, .ref n_base, .ref n_bound, .ref n_timer, .ref n_ranOut, .ref n_halted, .ref n_steps, .ref n_outs, .ref n_output, .ref n_waits, .ref n_typed, .ref n_disk, .ref n_wants, .int zat, .int zend, .int zline, .ref n_labelFrom, .ref n_labelSize, .ref n_labelAddress, .int zlabels, .int zfault, .int zfaultLine, .int zisTold, .int zaddress, .ref n_made, .int zmissing, .int zgood, .int zvalue, .int zvalueFrom, .int zvalueSize, .int zme])), (n_memory, .inl (E.2.1 0, 3072, .inl zmemory)), (n_register, .inl (E.2.1 0, 24, .inl (upd zregister ((8 * zme) + p2).toNatClampNeg (zregister ((8 * zme) + p3).toNatClampNeg)))), (n_mode, .inl (E.2.1 0, 3, .inl zmode)), (n_pc, .inl (E.2.1 0, 3, .inl zpc)), (n_base, .inl (E.2.1 0, 3, .inl zbase)), (n_bound, .inl (E.2.1 0, 3, .inl zbound)), (n_timer, .inl (E.2.1 0, 3, .inl ztimer)), (n_ranOut, .inl (E.2.1 3, 3, .inl zranOut)), (n_halted, .inl (E.2.1 3, 3, .inl zhalted)), (n_outs, .inl (E.2.1 0, 3, .inl zouts)), (n_output, .inl (E.2.1 0, 1500, .inl zoutput)), (n_waits, .inl (E.2.1 0, 3, .inl zwaits)), (n_typed, .inl (E.2.1 0, 300, .inl ztyped)), (n_disk, .inl (E.2.1 0, 384, .inl zdisk))]) rfl ?_
    clear hP hD hS
    intro H locs hP hD hS
    refine lv_goto (tgt := 394) J.1 J.2.1 d_MD_does_188 (by decide) ?_
    have h := Option.some.inj h
    have e_0 := (Prod.mk.inj h).1
    have h := (Prod.mk.inj h).2
    have e_1 := (Prod.mk.inj h).1
    have h := (Prod.mk.inj h).2
    have e_2 := (Prod.mk.inj h).1
    have h := (Prod.mk.inj h).2
    have e_3 := (Prod.mk.inj h).1
    have h := (Prod.mk.inj h).2
    have e_4 := (Prod.mk.inj h).1
    have h := (Prod.mk.inj h).2
    have e_5 := (Prod.mk.inj h).1
    have h := (Prod.mk.inj h).2
    have e_6 := (Prod.mk.inj h).1
    have h := (Prod.mk.inj h).2
    have e_7 := (Prod.mk.inj h).1
    have h := (Prod.mk.inj h).2
    have e_8 := (Prod.mk.inj h).1
    have h := (Prod.mk.inj h).2
    have e_9 := (Prod.mk.inj h).1
    have h := (Prod.mk.inj h).2
    have e_10 := (Prod.mk.inj h).1
    have h := (Prod.mk.inj h).2
    have e_11 := (Prod.mk.inj h).1
    have h := (Prod.mk.inj h).2
    have e_12 := (Prod.mk.inj h).1
    have h := (Prod.mk.inj h).2
    rw [← e_0, ← e_1, ← e_2, ← e_3, ← e_4, ← e_5, ← e_6, ← e_7, ← e_8, ← e_9, ← e_10, ← e_11, ← e_12, ← h]
    exact jr_v J hS hP hD d_MD_does_394
  replace h := g_f c_18 h
  by_cases c_20 : (p1) = 7
  · replace h := g_t c_20 h
    refine lv_tableIn (off := 154) (tgt := 191) J.1 J.2.1 d_MD_does_37 (by rw [c_20]; decide) (by rw [c_20]; decide) (by rw [c_20]; rfl) (by decide) ?_
    refine lv_aload_n J.1 J.2.1 d_MD_does_191 rfl (lv_at hl 3 rfl) ?_
    refine jg J hJ hP 0 rfl rfl i_MD 6 (by decide) gf_MD_35 rfl d_MD_does_192 ?_
    refine lv_iload J.1 J.2.1 d_MD_does_195 (lv_at hl 2 rfl) ?_
    refine lv_iload J.1 J.2.1 d_MD_does_197 (lv_at hl 1 rfl) ?_
    refine lv_iload J.1 J.2.1 d_MD_does_199 (lv_at hl 0 rfl) ?_
    refine lv_iadd J.1 J.2.1 d_MD_does_201 ?_
    refine lv_ldc (v := 65536) J.1 J.2.1 J.2.2.2.2.1 (J.2.2.2.2.2.1 _ gk_MD_187) d_MD_does_202 ?_
    refine lv_irem J.1 J.2.1 d_MD_does_204 (by decide) ?_
    replace h := g_ck h
    obtain ⟨k_21, h⟩ := h
    refine jsi J hJ hP hD hS 2 rfl k_21 d_MD_does_205 (WS' := [(n0, .inr (6, [.ref n_tape, .int ztaped, .ref n_isThere, .ref n_size, .ref n_depth, .ref n_memory, .ref n_register, .ref n_mode, .ref n_pc, .ref n_base, .ref n_bound, .ref n_timer, .ref n_ranOut, .ref n_halted, .ref n_steps, .ref n_outs, .ref n_output, .ref n_waits, .ref n_typed, .ref n_disk, .ref n_wants, .int zat, .int zend, .int zline, .ref n_labelFrom, .ref n_labelSize, .ref n_labelAddress, .int zlabels, .int zfault, .int zfaultLine, .int zisTold, .int zaddress, .ref n_made, .int zmissing, .int zgood, .int zvalue, .int zvalueFrom, .int zvalueSize, .int zme])), (n_memory, .inl (E.2.1 0, 3072, .inl zmemory)), (n_register, .inl (E.2.1 0, 24, .inl (upd zregister ((8 * zme) + p2).toNatClampNeg (((zregister ((8 * zme) + p2).toNatClampNeg) + (zregister ((8 * zme) + p3).toNatClampNeg)) - ((zregister ((8 * zme) + p2).toNatClampNeg) + (zregister ((8 * zme) + p3).toNatClampNeg)) / 65536 * 65536)))), (n_mode, .inl (E.2.1 0, 3, .inl zmode)), (n_pc, .inl (E.2.1 0, 3, .inl zpc)), (n_base, .inl (E.2.1 0, 3, .inl zbase)), (n_bound, .inl (E.2.1 0, 3, .inl zbound)), (n_timer, .inl (E.2.1 0, 3, .inl ztimer)), (n_ranOut, .inl (E.2.1 3, 3, .inl zranOut)), (n_halted, .inl (E.2.1 3, 3, .inl zhalted)), (n_outs, .inl (E.2.1 0, 3, .inl zouts)), (n_output, .inl (E.2.1 0, 1500, .inl zoutput)), (n_waits, .inl (E.2.1 0, 3, .inl zwaits)), (n_typed, .inl (E.2.1 0, 300, .inl ztyped)), (n_disk, .inl (E.2.1 0, 384, .inl zdisk))]) rfl ?_
    clear hP hD hS
    intro H locs hP hD hS
    refine lv_goto (tgt := 394) J.1 J.2.1 d_MD_does_206 (by decide) ?_
    have h := Option.some.inj h
    have e_0 := (Prod.mk.inj h).1
    have h := (Prod.mk.inj h).2
    have e_1 := (Prod.mk.inj h).1
    have h := (Prod.mk.inj h).2
    have e_2 := (Prod.mk.inj h).1
    have h := (Prod.mk.inj h).2
    have e_3 := (Prod.mk.inj h).1
    have h := (Prod.mk.inj h).2
    have e_4 := (Prod.mk.inj h).1
    have h := (Prod.mk.inj h).2
    have e_5 := (Prod.mk.inj h).1
    have h := (Prod.mk.inj h).2
    have e_6 := (Prod.mk.inj h).1
    have h := (Prod.mk.inj h).2
    have e_7 := (Prod.mk.inj h).1
    have h := (Prod.mk.inj h).2
    have e_8 := (Prod.mk.inj h).1
    have h := (Prod.mk.inj h).2
    have e_9 := (Prod.mk.inj h).1
    have h := (Prod.mk.inj h).2
    have e_10 := (Prod.mk.inj h).1
    have h := (Prod.mk.inj h).2
    have e_11 := (Prod.mk.inj h).1
    have h := (Prod.mk.inj h).2
    have e_12 := (Prod.mk.inj h).1
    have h := (Prod.mk.inj h).2
    rw [← e_0, ← e_1, ← e_2, ← e_3, ← e_4, ← e_5, ← e_6, ← e_7, ← e_8, ← e_9, ← e_10, ← e_11, ← e_12, ← h]
    exact jr_v J hS hP hD d_MD_does_394
  replace h := g_f c_20 h
  by_cases c_22 : (p1) = 8
  · replace h := g_t c_22 h
    refine lv_tableIn (off := 172) (tgt := 209) J.1 J.2.1 d_MD_does_37 (by rw [c_22]; decide) (by rw [c_22]; decide) (by rw [c_22]; rfl) (by decide) ?_
    refine lv_aload_n J.1 J.2.1 d_MD_does_209 rfl (lv_at hl 3 rfl) ?_
    refine jg J hJ hP 0 rfl rfl i_MD 6 (by decide) gf_MD_35 rfl d_MD_does_210 ?_
    refine lv_iload J.1 J.2.1 d_MD_does_213 (lv_at hl 2 rfl) ?_
    refine lv_iload J.1 J.2.1 d_MD_does_215 (lv_at hl 1 rfl) ?_
    refine lv_iload J.1 J.2.1 d_MD_does_217 (lv_at hl 0 rfl) ?_
    refine lv_isub J.1 J.2.1 d_MD_does_219 ?_
    refine lv_ldc (v := 65536) J.1 J.2.1 J.2.2.2.2.1 (J.2.2.2.2.2.1 _ gk_MD_187) d_MD_does_220 ?_
    refine lv_iadd J.1 J.2.1 d_MD_does_222 ?_
    refine lv_ldc (v := 65536) J.1 J.2.1 J.2.2.2.2.1 (J.2.2.2.2.2.1 _ gk_MD_187) d_MD_does_223 ?_
    refine lv_irem J.1 J.2.1 d_MD_does_225 (by decide) ?_
    replace h := g_ck h
    obtain ⟨k_23, h⟩ := h
    refine jsi J hJ hP hD hS 2 rfl k_23 d_MD_does_226 (WS' := [(n0, .inr (6, [.ref n_tape, .int ztaped, .ref n_isThere, .ref n_size, .ref n_depth, .ref n_memory, .ref n_register, .ref n_mode, .ref n_pc, .ref n_base, .ref n_bound, .ref n_timer, .ref n_ranOut, .ref n_halted, .ref n_steps, .ref n_outs, .ref n_output, .ref n_waits, .ref n_typed, .ref n_disk, .ref n_wants, .int zat, .int zend, .int zline, .ref n_labelFrom, .ref n_labelSize, .ref n_labelAddress, .int zlabels, .int zfault, .int zfaultLine, .int zisTold, .int zaddress, .ref n_made, .int zmissing, .int zgood, .int zvalue, .int zvalueFrom, .int zvalueSize, .int zme])), (n_memory, .inl (E.2.1 0, 3072, .inl zmemory)), (n_register, .inl (E.2.1 0, 24, .inl (upd zregister ((8 * zme) + p2).toNatClampNeg ((((zregister ((8 * zme) + p2).toNatClampNeg) - (zregister ((8 * zme) + p3).toNatClampNeg)) + 65536) - (((zregister ((8 * zme) + p2).toNatClampNeg) - (zregister ((8 * zme) + p3).toNatClampNeg)) + 65536) / 65536 * 65536)))), (n_mode, .inl (E.2.1 0, 3, .inl zmode)), (n_pc, .inl (E.2.1 0, 3, .inl zpc)), (n_base, .inl (E.2.1 0, 3, .inl zbase)), (n_bound, .inl (E.2.1 0, 3, .inl zbound)), (n_timer, .inl (E.2.1 0, 3, .inl ztimer)), (n_ranOut, .inl (E.2.1 3, 3, .inl zranOut)), (n_halted, .inl (E.2.1 3, 3, .inl zhalted)), (n_outs, .inl (E.2.1 0, 3, .inl zouts)), (n_output, .inl (E.2.1 0, 1500, .inl zoutput)), (n_waits, .inl (E.2.1 0, 3, .inl zwaits)), (n_typed, .inl (E.2.1 0, 300, .inl ztyped)), (n_disk, .inl (E.2.1 0, 384, .inl zdisk))]) rfl ?_
    clear hP hD hS
    intro H locs hP hD hS
    refine lv_goto (tgt := 394) J.1 J.2.1 d_MD_does_227 (by decide) ?_
    have h := Option.some.inj h
    have e_0 := (Prod.mk.inj h).1
    have h := (Prod.mk.inj h).2
    have e_1 := (Prod.mk.inj h).1
    have h := (Prod.mk.inj h).2
    have e_2 := (Prod.mk.inj h).1
    have h := (Prod.mk.inj h).2
    have e_3 := (Prod.mk.inj h).1
    have h := (Prod.mk.inj h).2
    have e_4 := (Prod.mk.inj h).1
    have h := (Prod.mk.inj h).2
    have e_5 := (Prod.mk.inj h).1
    have h := (Prod.mk.inj h).2
    have e_6 := (Prod.mk.inj h).1
    have h := (Prod.mk.inj h).2
    have e_7 := (Prod.mk.inj h).1
    have h := (Prod.mk.inj h).2
    have e_8 := (Prod.mk.inj h).1
    have h := (Prod.mk.inj h).2
    have e_9 := (Prod.mk.inj h).1
    have h := (Prod.mk.inj h).2
    have e_10 := (Prod.mk.inj h).1
    have h := (Prod.mk.inj h).2
    have e_11 := (Prod.mk.inj h).1
    have h := (Prod.mk.inj h).2
    have e_12 := (Prod.mk.inj h).1
    have h := (Prod.mk.inj h).2
    rw [← e_0, ← e_1, ← e_2, ← e_3, ← e_4, ← e_5, ← e_6, ← e_7, ← e_8, ← e_9, ← e_10, ← e_11, ← e_12, ← h]
    exact jr_v J hS hP hD d_MD_does_394
  replace h := g_f c_22 h
  by_cases c_24 : (p1) = 9
  · replace h := g_t c_24 h
    refine lv_tableIn (off := 193) (tgt := 230) J.1 J.2.1 d_MD_does_37 (by rw [c_24]; decide) (by rw [c_24]; decide) (by rw [c_24]; rfl) (by decide) ?_
    refine lv_aload_n J.1 J.2.1 d_MD_does_230 rfl (lv_at hl 3 rfl) ?_
    refine jg J hJ hP 0 rfl rfl i_MD 6 (by decide) gf_MD_35 rfl d_MD_does_231 ?_
    refine lv_iload J.1 J.2.1 d_MD_does_234 (lv_at hl 2 rfl) ?_
    refine lv_iload J.1 J.2.1 d_MD_does_236 (lv_at hl 1 rfl) ?_
    refine lv_iload J.1 J.2.1 d_MD_does_238 (lv_at hl 0 rfl) ?_
    refine lv_iand J.1 J.2.1 d_MD_does_240 ?_
    replace h := g_ck h
    obtain ⟨k_25, h⟩ := h
    refine jsi J hJ hP hD hS 2 rfl k_25 d_MD_does_241 (WS' := [(n0, .inr (6, [.ref n_tape, .int ztaped, .ref n_isThere, .ref n_size, .ref n_depth, .ref n_memory, .ref n_register, .ref n_mode, .ref n_pc, .ref n_base, .ref n_bound, .ref n_timer, .ref n_ranOut, .ref n_halted, .ref n_steps, .ref n_outs, .ref n_output, .ref n_waits, .ref n_typed, .ref n_disk, .ref n_wants, .int zat, .int zend, .int zline, .ref n_labelFrom, .ref n_labelSize, .ref n_labelAddress, .int zlabels, .int zfault, .int zfaultLine, .int zisTold, .int zaddress, .ref n_made, .int zmissing, .int zgood, .int zvalue, .int zvalueFrom, .int zvalueSize, .int zme])), (n_memory, .inl (E.2.1 0, 3072, .inl zmemory)), (n_register, .inl (E.2.1 0, 24, .inl (upd zregister ((8 * zme) + p2).toNatClampNeg ((zregister ((8 * zme) + p2).toNatClampNeg) &&& (zregister ((8 * zme) + p3).toNatClampNeg))))), (n_mode, .inl (E.2.1 0, 3, .inl zmode)), (n_pc, .inl (E.2.1 0, 3, .inl zpc)), (n_base, .inl (E.2.1 0, 3, .inl zbase)), (n_bound, .inl (E.2.1 0, 3, .inl zbound)), (n_timer, .inl (E.2.1 0, 3, .inl ztimer)), (n_ranOut, .inl (E.2.1 3, 3, .inl zranOut)), (n_halted, .inl (E.2.1 3, 3, .inl zhalted)), (n_outs, .inl (E.2.1 0, 3, .inl zouts)), (n_output, .inl (E.2.1 0, 1500, .inl zoutput)), (n_waits, .inl (E.2.1 0, 3, .inl zwaits)), (n_typed, .inl (E.2.1 0, 300, .inl ztyped)), (n_disk, .inl (E.2.1 0, 384, .inl zdisk))]) rfl ?_
    clear hP hD hS
    intro H locs hP hD hS
    refine lv_goto (tgt := 394) J.1 J.2.1 d_MD_does_242 (by decide) ?_
    have h := Option.some.inj h
    have e_0 := (Prod.mk.inj h).1
    have h := (Prod.mk.inj h).2
    have e_1 := (Prod.mk.inj h).1
    have h := (Prod.mk.inj h).2
    have e_2 := (Prod.mk.inj h).1
    have h := (Prod.mk.inj h).2
    have e_3 := (Prod.mk.inj h).1
    have h := (Prod.mk.inj h).2
    have e_4 := (Prod.mk.inj h).1
    have h := (Prod.mk.inj h).2
    have e_5 := (Prod.mk.inj h).1
    have h := (Prod.mk.inj h).2
    have e_6 := (Prod.mk.inj h).1
    have h := (Prod.mk.inj h).2
    have e_7 := (Prod.mk.inj h).1
    have h := (Prod.mk.inj h).2
    have e_8 := (Prod.mk.inj h).1
    have h := (Prod.mk.inj h).2
    have e_9 := (Prod.mk.inj h).1
    have h := (Prod.mk.inj h).2
    have e_10 := (Prod.mk.inj h).1
    have h := (Prod.mk.inj h).2
    have e_11 := (Prod.mk.inj h).1
    have h := (Prod.mk.inj h).2
    have e_12 := (Prod.mk.inj h).1
    have h := (Prod.mk.inj h).2
    rw [← e_0, ← e_1, ← e_2, ← e_3, ← e_4, ← e_5, ← e_6, ← e_7, ← e_8, ← e_9, ← e_10, ← e_11, ← e_12, ← h]
    exact jr_v J hS hP hD d_MD_does_394
  replace h := g_f c_24 h
  by_cases c_26 : (p1) = 10
  · replace h := g_t c_26 h
    refine lv_tableIn (off := 208) (tgt := 245) J.1 J.2.1 d_MD_does_37 (by rw [c_26]; decide) (by rw [c_26]; decide) (by rw [c_26]; rfl) (by decide) ?_
    refine lv_aload_n J.1 J.2.1 d_MD_does_245 rfl (lv_at hl 3 rfl) ?_
    refine jg J hJ hP 0 rfl rfl i_MD 6 (by decide) gf_MD_35 rfl d_MD_does_246 ?_
    refine lv_iload J.1 J.2.1 d_MD_does_249 (lv_at hl 2 rfl) ?_
    refine lv_iload J.1 J.2.1 d_MD_does_251 (lv_at hl 1 rfl) ?_
    refine lv_iload J.1 J.2.1 d_MD_does_253 (lv_at hl 0 rfl) ?_
    refine lv_icmp_ge (tgt := 262) J.1 J.2.1 d_MD_does_255 (by decide) (fun c_27 => ?_) (fun c_27 => ?_)
    · replace h := g_t c_27 h
      refine lv_iconst (v := 0) J.1 J.2.1 d_MD_does_262 (by decide) ?_
      replace h := g_ck h
      obtain ⟨k_28, h⟩ := h
      refine jsi J hJ hP hD hS 2 rfl k_28 d_MD_does_263 (WS' := [(n0, .inr (6, [.ref n_tape, .int ztaped, .ref n_isThere, .ref n_size, .ref n_depth, .ref n_memory, .ref n_register, .ref n_mode, .ref n_pc, .ref n_base, .ref n_bound, .ref n_timer, .ref n_ranOut, .ref n_halted, .ref n_steps, .ref n_outs, .ref n_output, .ref n_waits, .ref n_typed, .ref n_disk, .ref n_wants, .int zat, .int zend, .int zline, .ref n_labelFrom, .ref n_labelSize, .ref n_labelAddress, .int zlabels, .int zfault, .int zfaultLine, .int zisTold, .int zaddress, .ref n_made, .int zmissing, .int zgood, .int zvalue, .int zvalueFrom, .int zvalueSize, .int zme])), (n_memory, .inl (E.2.1 0, 3072, .inl zmemory)), (n_register, .inl (E.2.1 0, 24, .inl (upd zregister ((8 * zme) + p2).toNatClampNeg 0))), (n_mode, .inl (E.2.1 0, 3, .inl zmode)), (n_pc, .inl (E.2.1 0, 3, .inl zpc)), (n_base, .inl (E.2.1 0, 3, .inl zbase)), (n_bound, .inl (E.2.1 0, 3, .inl zbound)), (n_timer, .inl (E.2.1 0, 3, .inl ztimer)), (n_ranOut, .inl (E.2.1 3, 3, .inl zranOut)), (n_halted, .inl (E.2.1 3, 3, .inl zhalted)), (n_outs, .inl (E.2.1 0, 3, .inl zouts)), (n_output, .inl (E.2.1 0, 1500, .inl zoutput)), (n_waits, .inl (E.2.1 0, 3, .inl zwaits)), (n_typed, .inl (E.2.1 0, 300, .inl ztyped)), (n_disk, .inl (E.2.1 0, 384, .inl zdisk))]) rfl ?_
      clear hP hD hS
      intro H locs hP hD hS
      refine lv_goto (tgt := 394) J.1 J.2.1 d_MD_does_264 (by decide) ?_
      have h := Option.some.inj h
      have e_0 := (Prod.mk.inj h).1
      have h := (Prod.mk.inj h).2
      have e_1 := (Prod.mk.inj h).1
      have h := (Prod.mk.inj h).2
      have e_2 := (Prod.mk.inj h).1
      have h := (Prod.mk.inj h).2
      have e_3 := (Prod.mk.inj h).1
      have h := (Prod.mk.inj h).2
      have e_4 := (Prod.mk.inj h).1
      have h := (Prod.mk.inj h).2
      have e_5 := (Prod.mk.inj h).1
      have h := (Prod.mk.inj h).2
      have e_6 := (Prod.mk.inj h).1
      have h := (Prod.mk.inj h).2
      have e_7 := (Prod.mk.inj h).1
      have h := (Prod.mk.inj h).2
      have e_8 := (Prod.mk.inj h).1
      have h := (Prod.mk.inj h).2
      have e_9 := (Prod.mk.inj h).1
      have h := (Prod.mk.inj h).2
      have e_10 := (Prod.mk.inj h).1
      have h := (Prod.mk.inj h).2
      have e_11 := (Prod.mk.inj h).1
      have h := (Prod.mk.inj h).2
      have e_12 := (Prod.mk.inj h).1
      have h := (Prod.mk.inj h).2
      rw [← e_0, ← e_1, ← e_2, ← e_3, ← e_4, ← e_5, ← e_6, ← e_7, ← e_8, ← e_9, ← e_10, ← e_11, ← e_12, ← h]
      exact jr_v J hS hP hD d_MD_does_394
    · replace h := g_f c_27 h
      refine lv_iconst (v := 1) J.1 J.2.1 d_MD_does_258 (by decide) ?_
      refine lv_goto (tgt := 263) J.1 J.2.1 d_MD_does_259 (by decide) ?_
      replace h := g_ck h
      obtain ⟨k_29, h⟩ := h
      refine jsi J hJ hP hD hS 2 rfl k_29 d_MD_does_263 (WS' := [(n0, .inr (6, [.ref n_tape, .int ztaped, .ref n_isThere, .ref n_size, .ref n_depth, .ref n_memory, .ref n_register, .ref n_mode, .ref n_pc, .ref n_base, .ref n_bound, .ref n_timer, .ref n_ranOut, .ref n_halted, .ref n_steps, .ref n_outs, .ref n_output, .ref n_waits, .ref n_typed, .ref n_disk, .ref n_wants, .int zat, .int zend, .int zline, .ref n_labelFrom, .ref n_labelSize, .ref n_labelAddress, .int zlabels, .int zfault, .int zfaultLine, .int zisTold, .int zaddress, .ref n_made, .int zmissing, .int zgood, .int zvalue, .int zvalueFrom, .int zvalueSize, .int zme])), (n_memory, .inl (E.2.1 0, 3072, .inl zmemory)), (n_register, .inl (E.2.1 0, 24, .inl (upd zregister ((8 * zme) + p2).toNatClampNeg 1))), (n_mode, .inl (E.2.1 0, 3, .inl zmode)), (n_pc, .inl (E.2.1 0, 3, .inl zpc)), (n_base, .inl (E.2.1 0, 3, .inl zbase)), (n_bound, .inl (E.2.1 0, 3, .inl zbound)), (n_timer, .inl (E.2.1 0, 3, .inl ztimer)), (n_ranOut, .inl (E.2.1 3, 3, .inl zranOut)), (n_halted, .inl (E.2.1 3, 3, .inl zhalted)), (n_outs, .inl (E.2.1 0, 3, .inl zouts)), (n_output, .inl (E.2.1 0, 1500, .inl zoutput)), (n_waits, .inl (E.2.1 0, 3, .inl zwaits)), (n_typed, .inl (E.2.1 0, 300, .inl ztyped)), (n_disk, .inl (E.2.1 0, 384, .inl zdisk))]) rfl ?_
      clear hP hD hS
      intro H locs hP hD hS
      refine lv_goto (tgt := 394) J.1 J.2.1 d_MD_does_264 (by decide) ?_
      have h := Option.some.inj h
      have e_0 := (Prod.mk.inj h).1
      have h := (Prod.mk.inj h).2
      have e_1 := (Prod.mk.inj h).1
      have h := (Prod.mk.inj h).2
      have e_2 := (Prod.mk.inj h).1
      have h := (Prod.mk.inj h).2
      have e_3 := (Prod.mk.inj h).1
      have h := (Prod.mk.inj h).2
      have e_4 := (Prod.mk.inj h).1
      have h := (Prod.mk.inj h).2
      have e_5 := (Prod.mk.inj h).1
      have h := (Prod.mk.inj h).2
      have e_6 := (Prod.mk.inj h).1
      have h := (Prod.mk.inj h).2
      have e_7 := (Prod.mk.inj h).1
      have h := (Prod.mk.inj h).2
      have e_8 := (Prod.mk.inj h).1
      have h := (Prod.mk.inj h).2
      have e_9 := (Prod.mk.inj h).1
      have h := (Prod.mk.inj h).2
      have e_10 := (Prod.mk.inj h).1
      have h := (Prod.mk.inj h).2
      have e_11 := (Prod.mk.inj h).1
      have h := (Prod.mk.inj h).2
      have e_12 := (Prod.mk.inj h).1
      have h := (Prod.mk.inj h).2
      rw [← e_0, ← e_1, ← e_2, ← e_3, ← e_4, ← e_5, ← e_6, ← e_7, ← e_8, ← e_9, ← e_10, ← e_11, ← e_12, ← h]
      exact jr_v J hS hP hD d_MD_does_394
  replace h := g_f c_26 h
  by_cases c_30 : (p1) = 11
  · replace h := g_t c_30 h
    refine lv_tableIn (off := 230) (tgt := 267) J.1 J.2.1 d_MD_does_37 (by rw [c_30]; decide) (by rw [c_30]; decide) (by rw [c_30]; rfl) (by decide) ?_
    refine lv_aload_n J.1 J.2.1 d_MD_does_267 rfl (lv_at hl 3 rfl) ?_
    refine jg J hJ hP 0 rfl rfl i_MD 6 (by decide) gf_MD_35 rfl d_MD_does_268 ?_
    refine lv_iload J.1 J.2.1 d_MD_does_271 (lv_at hl 2 rfl) ?_
    refine lv_iload J.1 J.2.1 d_MD_does_273 (lv_at hl 7 rfl) ?_
    refine lv_bipush (v := 16) J.1 J.2.1 d_MD_does_275 (by decide) ?_
    refine lv_idiv J.1 J.2.1 d_MD_does_277 (by decide) ?_
    refine lv_iconst (v := 2) J.1 J.2.1 d_MD_does_278 (by decide) ?_
    refine lv_irem J.1 J.2.1 d_MD_does_279 (by decide) ?_
    refine lv_if_ne (tgt := 297) J.1 J.2.1 d_MD_does_280 (by decide) (fun c_31 => ?_) (fun c_31 => ?_)
    · replace h := g_f c_31 h
      refine lv_iload J.1 J.2.1 d_MD_does_297 (lv_at hl 1 rfl) ?_
      refine lv_iload J.1 J.2.1 d_MD_does_299 (lv_at hl 7 rfl) ?_
      refine lv_bipush (v := 16) J.1 J.2.1 d_MD_does_301 (by decide) ?_
      refine lv_irem J.1 J.2.1 d_MD_does_303 (by decide) ?_
      refine lv_ishr J.1 J.2.1 d_MD_does_304 ?_
      replace h := g_ck h
      obtain ⟨k_32, h⟩ := h
      refine jsi J hJ hP hD hS 2 rfl k_32 d_MD_does_305 (WS' := [(n0, .inr (6, [.ref n_tape, .int ztaped, .ref n_isThere, .ref n_size, .ref n_depth, .ref n_memory, .ref n_register, .ref n_mode, .ref n_pc, .ref n_base, .ref n_bound, .ref n_timer, .ref n_ranOut, .ref n_halted, .ref n_steps, .ref n_outs, .ref n_output, .ref n_waits, .ref n_typed, .ref n_disk, .ref n_wants, .int zat, .int zend, .int zline, .ref n_labelFrom, .ref n_labelSize, .ref n_labelAddress, .int zlabels, .int zfault, .int zfaultLine, .int zisTold, .int zaddress, .ref n_made, .int zmissing, .int zgood, .int zvalue, .int zvalueFrom, .int zvalueSize, .int zme])), (n_memory, .inl (E.2.1 0, 3072, .inl zmemory)), (n_register, .inl (E.2.1 0, 24, .inl (upd zregister ((8 * zme) + p2).toNatClampNeg ((zregister ((8 * zme) + p2).toNatClampNeg) >>> ((p4 - p4 / 16 * 16) &&& 31))))), (n_mode, .inl (E.2.1 0, 3, .inl zmode)), (n_pc, .inl (E.2.1 0, 3, .inl zpc)), (n_base, .inl (E.2.1 0, 3, .inl zbase)), (n_bound, .inl (E.2.1 0, 3, .inl zbound)), (n_timer, .inl (E.2.1 0, 3, .inl ztimer)), (n_ranOut, .inl (E.2.1 3, 3, .inl zranOut)), (n_halted, .inl (E.2.1 3, 3, .inl zhalted)), (n_outs, .inl (E.2.1 0, 3, .inl zouts)), (n_output, .inl (E.2.1 0, 1500, .inl zoutput)), (n_waits, .inl (E.2.1 0, 3, .inl zwaits)), (n_typed, .inl (E.2.1 0, 300, .inl ztyped)), (n_disk, .inl (E.2.1 0, 384, .inl zdisk))]) rfl ?_
      clear hP hD hS
      intro H locs hP hD hS
      refine lv_goto (tgt := 394) J.1 J.2.1 d_MD_does_306 (by decide) ?_
      have h := Option.some.inj h
      have e_0 := (Prod.mk.inj h).1
      have h := (Prod.mk.inj h).2
      have e_1 := (Prod.mk.inj h).1
      have h := (Prod.mk.inj h).2
      have e_2 := (Prod.mk.inj h).1
      have h := (Prod.mk.inj h).2
      have e_3 := (Prod.mk.inj h).1
      have h := (Prod.mk.inj h).2
      have e_4 := (Prod.mk.inj h).1
      have h := (Prod.mk.inj h).2
      have e_5 := (Prod.mk.inj h).1
      have h := (Prod.mk.inj h).2
      have e_6 := (Prod.mk.inj h).1
      have h := (Prod.mk.inj h).2
      have e_7 := (Prod.mk.inj h).1
      have h := (Prod.mk.inj h).2
      have e_8 := (Prod.mk.inj h).1
      have h := (Prod.mk.inj h).2
      have e_9 := (Prod.mk.inj h).1
      have h := (Prod.mk.inj h).2
      have e_10 := (Prod.mk.inj h).1
      have h := (Prod.mk.inj h).2
      have e_11 := (Prod.mk.inj h).1
      have h := (Prod.mk.inj h).2
      have e_12 := (Prod.mk.inj h).1
      have h := (Prod.mk.inj h).2
      rw [← e_0, ← e_1, ← e_2, ← e_3, ← e_4, ← e_5, ← e_6, ← e_7, ← e_8, ← e_9, ← e_10, ← e_11, ← e_12, ← h]
      exact jr_v J hS hP hD d_MD_does_394
    · replace h := g_t c_31 h
      refine lv_iload J.1 J.2.1 d_MD_does_283 (lv_at hl 1 rfl) ?_
      refine lv_iload J.1 J.2.1 d_MD_does_285 (lv_at hl 7 rfl) ?_
      refine lv_bipush (v := 16) J.1 J.2.1 d_MD_does_287 (by decide) ?_
      refine lv_irem J.1 J.2.1 d_MD_does_289 (by decide) ?_
      refine lv_ishl J.1 J.2.1 d_MD_does_290 ?_
      refine lv_ldc (v := 65536) J.1 J.2.1 J.2.2.2.2.1 (J.2.2.2.2.2.1 _ gk_MD_187) d_MD_does_291 ?_
      refine lv_irem J.1 J.2.1 d_MD_does_293 (by decide) ?_
      refine lv_goto (tgt := 305) J.1 J.2.1 d_MD_does_294 (by decide) ?_
      replace h := g_ck h
      obtain ⟨k_33, h⟩ := h
      refine jsi J hJ hP hD hS 2 rfl k_33 d_MD_does_305 (WS' := [(n0, .inr (6, [.ref n_tape, .int ztaped, .ref n_isThere, .ref n_size, .ref n_depth, .ref n_memory, .ref n_register, .ref n_mode, .ref n_pc, .ref n_base, .ref n_bound, .ref n_timer, .ref n_ranOut, .ref n_halted, .ref n_steps, .ref n_outs, .ref n_output, .ref n_waits, .ref n_typed, .ref n_disk, .ref n_wants, .int zat, .int zend, .int zline, .ref n_labelFrom, .ref n_labelSize, .ref n_labelAddress, .int zlabels, .int zfault, .int zfaultLine, .int zisTold, .int zaddress, .ref n_made, .int zmissing, .int zgood, .int zvalue, .int zvalueFrom, .int zvalueSize, .int zme])), (n_memory, .inl (E.2.1 0, 3072, .inl zmemory)), (n_register, .inl (E.2.1 0, 24, .inl (upd zregister ((8 * zme) + p2).toNatClampNeg (((zregister ((8 * zme) + p2).toNatClampNeg) <<< ((p4 - p4 / 16 * 16) &&& 31)) - ((zregister ((8 * zme) + p2).toNatClampNeg) <<< ((p4 - p4 / 16 * 16) &&& 31)) / 65536 * 65536)))), (n_mode, .inl (E.2.1 0, 3, .inl zmode)), (n_pc, .inl (E.2.1 0, 3, .inl zpc)), (n_base, .inl (E.2.1 0, 3, .inl zbase)), (n_bound, .inl (E.2.1 0, 3, .inl zbound)), (n_timer, .inl (E.2.1 0, 3, .inl ztimer)), (n_ranOut, .inl (E.2.1 3, 3, .inl zranOut)), (n_halted, .inl (E.2.1 3, 3, .inl zhalted)), (n_outs, .inl (E.2.1 0, 3, .inl zouts)), (n_output, .inl (E.2.1 0, 1500, .inl zoutput)), (n_waits, .inl (E.2.1 0, 3, .inl zwaits)), (n_typed, .inl (E.2.1 0, 300, .inl ztyped)), (n_disk, .inl (E.2.1 0, 384, .inl zdisk))]) rfl ?_
      clear hP hD hS
      intro H locs hP hD hS
      refine lv_goto (tgt := 394) J.1 J.2.1 d_MD_does_306 (by decide) ?_
      have h := Option.some.inj h
      have e_0 := (Prod.mk.inj h).1
      have h := (Prod.mk.inj h).2
      have e_1 := (Prod.mk.inj h).1
      have h := (Prod.mk.inj h).2
      have e_2 := (Prod.mk.inj h).1
      have h := (Prod.mk.inj h).2
      have e_3 := (Prod.mk.inj h).1
      have h := (Prod.mk.inj h).2
      have e_4 := (Prod.mk.inj h).1
      have h := (Prod.mk.inj h).2
      have e_5 := (Prod.mk.inj h).1
      have h := (Prod.mk.inj h).2
      have e_6 := (Prod.mk.inj h).1
      have h := (Prod.mk.inj h).2
      have e_7 := (Prod.mk.inj h).1
      have h := (Prod.mk.inj h).2
      have e_8 := (Prod.mk.inj h).1
      have h := (Prod.mk.inj h).2
      have e_9 := (Prod.mk.inj h).1
      have h := (Prod.mk.inj h).2
      have e_10 := (Prod.mk.inj h).1
      have h := (Prod.mk.inj h).2
      have e_11 := (Prod.mk.inj h).1
      have h := (Prod.mk.inj h).2
      have e_12 := (Prod.mk.inj h).1
      have h := (Prod.mk.inj h).2
      rw [← e_0, ← e_1, ← e_2, ← e_3, ← e_4, ← e_5, ← e_6, ← e_7, ← e_8, ← e_9, ← e_10, ← e_11, ← e_12, ← h]
      exact jr_v J hS hP hD d_MD_does_394
  replace h := g_f c_30 h
  by_cases c_34 : (p1) = 12
  · replace h := g_t c_34 h
    refine lv_tableIn (off := 272) (tgt := 309) J.1 J.2.1 d_MD_does_37 (by rw [c_34]; decide) (by rw [c_34]; decide) (by rw [c_34]; rfl) (by decide) ?_
    refine lv_aload_n J.1 J.2.1 d_MD_does_309 rfl (lv_at hl 3 rfl) ?_
    refine jg J hJ hP 0 rfl rfl i_MD 8 (by decide) gf_MD_41 rfl d_MD_does_310 ?_
    refine lv_aload_n J.1 J.2.1 d_MD_does_313 rfl (lv_at hl 3 rfl) ?_
    refine jg J hJ hP 0 rfl rfl i_MD 38 (by decide) gf_MD_261 rfl d_MD_does_314 ?_
    refine lv_iload J.1 J.2.1 d_MD_does_317 (lv_at hl 7 rfl) ?_
    replace h := g_ck h
    obtain ⟨k_35, h⟩ := h
    refine jsi J hJ hP hD hS 4 rfl k_35 d_MD_does_319 (WS' := [(n0, .inr (6, [.ref n_tape, .int ztaped, .ref n_isThere, .ref n_size, .ref n_depth, .ref n_memory, .ref n_register, .ref n_mode, .ref n_pc, .ref n_base, .ref n_bound, .ref n_timer, .ref n_ranOut, .ref n_halted, .ref n_steps, .ref n_outs, .ref n_output, .ref n_waits, .ref n_typed, .ref n_disk, .ref n_wants, .int zat, .int zend, .int zline, .ref n_labelFrom, .ref n_labelSize, .ref n_labelAddress, .int zlabels, .int zfault, .int zfaultLine, .int zisTold, .int zaddress, .ref n_made, .int zmissing, .int zgood, .int zvalue, .int zvalueFrom, .int zvalueSize, .int zme])), (n_memory, .inl (E.2.1 0, 3072, .inl zmemory)), (n_register, .inl (E.2.1 0, 24, .inl zregister)), (n_mode, .inl (E.2.1 0, 3, .inl zmode)), (n_pc, .inl (E.2.1 0, 3, .inl (upd zpc zme.toNatClampNeg p4))), (n_base, .inl (E.2.1 0, 3, .inl zbase)), (n_bound, .inl (E.2.1 0, 3, .inl zbound)), (n_timer, .inl (E.2.1 0, 3, .inl ztimer)), (n_ranOut, .inl (E.2.1 3, 3, .inl zranOut)), (n_halted, .inl (E.2.1 3, 3, .inl zhalted)), (n_outs, .inl (E.2.1 0, 3, .inl zouts)), (n_output, .inl (E.2.1 0, 1500, .inl zoutput)), (n_waits, .inl (E.2.1 0, 3, .inl zwaits)), (n_typed, .inl (E.2.1 0, 300, .inl ztyped)), (n_disk, .inl (E.2.1 0, 384, .inl zdisk))]) rfl ?_
    clear hP hD hS
    intro H locs hP hD hS
    refine lv_goto (tgt := 394) J.1 J.2.1 d_MD_does_320 (by decide) ?_
    have h := Option.some.inj h
    have e_0 := (Prod.mk.inj h).1
    have h := (Prod.mk.inj h).2
    have e_1 := (Prod.mk.inj h).1
    have h := (Prod.mk.inj h).2
    have e_2 := (Prod.mk.inj h).1
    have h := (Prod.mk.inj h).2
    have e_3 := (Prod.mk.inj h).1
    have h := (Prod.mk.inj h).2
    have e_4 := (Prod.mk.inj h).1
    have h := (Prod.mk.inj h).2
    have e_5 := (Prod.mk.inj h).1
    have h := (Prod.mk.inj h).2
    have e_6 := (Prod.mk.inj h).1
    have h := (Prod.mk.inj h).2
    have e_7 := (Prod.mk.inj h).1
    have h := (Prod.mk.inj h).2
    have e_8 := (Prod.mk.inj h).1
    have h := (Prod.mk.inj h).2
    have e_9 := (Prod.mk.inj h).1
    have h := (Prod.mk.inj h).2
    have e_10 := (Prod.mk.inj h).1
    have h := (Prod.mk.inj h).2
    have e_11 := (Prod.mk.inj h).1
    have h := (Prod.mk.inj h).2
    have e_12 := (Prod.mk.inj h).1
    have h := (Prod.mk.inj h).2
    rw [← e_0, ← e_1, ← e_2, ← e_3, ← e_4, ← e_5, ← e_6, ← e_7, ← e_8, ← e_9, ← e_10, ← e_11, ← e_12, ← h]
    exact jr_v J hS hP hD d_MD_does_394
  replace h := g_f c_34 h
  by_cases c_36 : (p1) = 13
  · replace h := g_t c_36 h
    refine lv_tableIn (off := 286) (tgt := 323) J.1 J.2.1 d_MD_does_37 (by rw [c_36]; decide) (by rw [c_36]; decide) (by rw [c_36]; rfl) (by decide) ?_
    refine lv_iload J.1 J.2.1 d_MD_does_323 (lv_at hl 1 rfl) ?_
    refine lv_if_ne (tgt := 394) J.1 J.2.1 d_MD_does_325 (by decide) (fun c_37 => ?_) (fun c_37 => ?_)
    · replace h := g_f c_37 h
      have h := Option.some.inj h
      have e_0 := (Prod.mk.inj h).1
      have h := (Prod.mk.inj h).2
      have e_1 := (Prod.mk.inj h).1
      have h := (Prod.mk.inj h).2
      have e_2 := (Prod.mk.inj h).1
      have h := (Prod.mk.inj h).2
      have e_3 := (Prod.mk.inj h).1
      have h := (Prod.mk.inj h).2
      have e_4 := (Prod.mk.inj h).1
      have h := (Prod.mk.inj h).2
      have e_5 := (Prod.mk.inj h).1
      have h := (Prod.mk.inj h).2
      have e_6 := (Prod.mk.inj h).1
      have h := (Prod.mk.inj h).2
      have e_7 := (Prod.mk.inj h).1
      have h := (Prod.mk.inj h).2
      have e_8 := (Prod.mk.inj h).1
      have h := (Prod.mk.inj h).2
      have e_9 := (Prod.mk.inj h).1
      have h := (Prod.mk.inj h).2
      have e_10 := (Prod.mk.inj h).1
      have h := (Prod.mk.inj h).2
      have e_11 := (Prod.mk.inj h).1
      have h := (Prod.mk.inj h).2
      have e_12 := (Prod.mk.inj h).1
      have h := (Prod.mk.inj h).2
      rw [← e_0, ← e_1, ← e_2, ← e_3, ← e_4, ← e_5, ← e_6, ← e_7, ← e_8, ← e_9, ← e_10, ← e_11, ← e_12, ← h]
      exact jr_v J hS hP hD d_MD_does_394
    · replace h := g_t c_37 h
      refine lv_aload_n J.1 J.2.1 d_MD_does_328 rfl (lv_at hl 3 rfl) ?_
      refine jg J hJ hP 0 rfl rfl i_MD 8 (by decide) gf_MD_41 rfl d_MD_does_329 ?_
      refine lv_aload_n J.1 J.2.1 d_MD_does_332 rfl (lv_at hl 3 rfl) ?_
      refine jg J hJ hP 0 rfl rfl i_MD 38 (by decide) gf_MD_261 rfl d_MD_does_333 ?_
      refine lv_iload J.1 J.2.1 d_MD_does_336 (lv_at hl 7 rfl) ?_
      replace h := g_ck h
      obtain ⟨k_38, h⟩ := h
      refine jsi J hJ hP hD hS 4 rfl k_38 d_MD_does_338 (WS' := [(n0, .inr (6, [.ref n_tape, .int ztaped, .ref n_isThere, .ref n_size, .ref n_depth, .ref n_memory, .ref n_register, .ref n_mode, .ref n_pc, .ref n_base, .ref n_bound, .ref n_timer, .ref n_ranOut, .ref n_halted, .ref n_steps, .ref n_outs, .ref n_output, .ref n_waits, .ref n_typed, .ref n_disk, .ref n_wants, .int zat, .int zend, .int zline, .ref n_labelFrom, .ref n_labelSize, .ref n_labelAddress, .int zlabels, .int zfault, .int zfaultLine, .int zisTold, .int zaddress, .ref n_made, .int zmissing, .int zgood, .int zvalue, .int zvalueFrom, .int zvalueSize, .int zme])), (n_memory, .inl (E.2.1 0, 3072, .inl zmemory)), (n_register, .inl (E.2.1 0, 24, .inl zregister)), (n_mode, .inl (E.2.1 0, 3, .inl zmode)), (n_pc, .inl (E.2.1 0, 3, .inl (upd zpc zme.toNatClampNeg p4))), (n_base, .inl (E.2.1 0, 3, .inl zbase)), (n_bound, .inl (E.2.1 0, 3, .inl zbound)), (n_timer, .inl (E.2.1 0, 3, .inl ztimer)), (n_ranOut, .inl (E.2.1 3, 3, .inl zranOut)), (n_halted, .inl (E.2.1 3, 3, .inl zhalted)), (n_outs, .inl (E.2.1 0, 3, .inl zouts)), (n_output, .inl (E.2.1 0, 1500, .inl zoutput)), (n_waits, .inl (E.2.1 0, 3, .inl zwaits)), (n_typed, .inl (E.2.1 0, 300, .inl ztyped)), (n_disk, .inl (E.2.1 0, 384, .inl zdisk))]) rfl ?_
      clear hP hD hS
      intro H locs hP hD hS
      refine lv_goto (tgt := 394) J.1 J.2.1 d_MD_does_339 (by decide) ?_
      have h := Option.some.inj h
      have e_0 := (Prod.mk.inj h).1
      have h := (Prod.mk.inj h).2
      have e_1 := (Prod.mk.inj h).1
      have h := (Prod.mk.inj h).2
      have e_2 := (Prod.mk.inj h).1
      have h := (Prod.mk.inj h).2
      have e_3 := (Prod.mk.inj h).1
      have h := (Prod.mk.inj h).2
      have e_4 := (Prod.mk.inj h).1
      have h := (Prod.mk.inj h).2
      have e_5 := (Prod.mk.inj h).1
      have h := (Prod.mk.inj h).2
      have e_6 := (Prod.mk.inj h).1
      have h := (Prod.mk.inj h).2
      have e_7 := (Prod.mk.inj h).1
      have h := (Prod.mk.inj h).2
      have e_8 := (Prod.mk.inj h).1
      have h := (Prod.mk.inj h).2
      have e_9 := (Prod.mk.inj h).1
      have h := (Prod.mk.inj h).2
      have e_10 := (Prod.mk.inj h).1
      have h := (Prod.mk.inj h).2
      have e_11 := (Prod.mk.inj h).1
      have h := (Prod.mk.inj h).2
      have e_12 := (Prod.mk.inj h).1
      have h := (Prod.mk.inj h).2
      rw [← e_0, ← e_1, ← e_2, ← e_3, ← e_4, ← e_5, ← e_6, ← e_7, ← e_8, ← e_9, ← e_10, ← e_11, ← e_12, ← h]
      exact jr_v J hS hP hD d_MD_does_394
  replace h := g_f c_36 h
  by_cases c_39 : (p1) = 14
  · replace h := g_t c_39 h
    refine lv_tableIn (off := 305) (tgt := 342) J.1 J.2.1 d_MD_does_37 (by rw [c_39]; decide) (by rw [c_39]; decide) (by rw [c_39]; rfl) (by decide) ?_
    refine lv_aload_n J.1 J.2.1 d_MD_does_342 rfl (lv_at hl 3 rfl) ?_
    refine jg J hJ hP 0 rfl rfl i_MD 8 (by decide) gf_MD_41 rfl d_MD_does_343 ?_
    refine lv_aload_n J.1 J.2.1 d_MD_does_346 rfl (lv_at hl 3 rfl) ?_
    refine jg J hJ hP 0 rfl rfl i_MD 38 (by decide) gf_MD_261 rfl d_MD_does_347 ?_
    refine lv_iload J.1 J.2.1 d_MD_does_350 (lv_at hl 1 rfl) ?_
    replace h := g_ck h
    obtain ⟨k_40, h⟩ := h
    refine jsi J hJ hP hD hS 4 rfl k_40 d_MD_does_352 (WS' := [(n0, .inr (6, [.ref n_tape, .int ztaped, .ref n_isThere, .ref n_size, .ref n_depth, .ref n_memory, .ref n_register, .ref n_mode, .ref n_pc, .ref n_base, .ref n_bound, .ref n_timer, .ref n_ranOut, .ref n_halted, .ref n_steps, .ref n_outs, .ref n_output, .ref n_waits, .ref n_typed, .ref n_disk, .ref n_wants, .int zat, .int zend, .int zline, .ref n_labelFrom, .ref n_labelSize, .ref n_labelAddress, .int zlabels, .int zfault, .int zfaultLine, .int zisTold, .int zaddress, .ref n_made, .int zmissing, .int zgood, .int zvalue, .int zvalueFrom, .int zvalueSize, .int zme])), (n_memory, .inl (E.2.1 0, 3072, .inl zmemory)), (n_register, .inl (E.2.1 0, 24, .inl zregister)), (n_mode, .inl (E.2.1 0, 3, .inl zmode)), (n_pc, .inl (E.2.1 0, 3, .inl (upd zpc zme.toNatClampNeg (zregister ((8 * zme) + p2).toNatClampNeg)))), (n_base, .inl (E.2.1 0, 3, .inl zbase)), (n_bound, .inl (E.2.1 0, 3, .inl zbound)), (n_timer, .inl (E.2.1 0, 3, .inl ztimer)), (n_ranOut, .inl (E.2.1 3, 3, .inl zranOut)), (n_halted, .inl (E.2.1 3, 3, .inl zhalted)), (n_outs, .inl (E.2.1 0, 3, .inl zouts)), (n_output, .inl (E.2.1 0, 1500, .inl zoutput)), (n_waits, .inl (E.2.1 0, 3, .inl zwaits)), (n_typed, .inl (E.2.1 0, 300, .inl ztyped)), (n_disk, .inl (E.2.1 0, 384, .inl zdisk))]) rfl ?_
    clear hP hD hS
    intro H locs hP hD hS
    refine lv_goto (tgt := 394) J.1 J.2.1 d_MD_does_353 (by decide) ?_
    have h := Option.some.inj h
    have e_0 := (Prod.mk.inj h).1
    have h := (Prod.mk.inj h).2
    have e_1 := (Prod.mk.inj h).1
    have h := (Prod.mk.inj h).2
    have e_2 := (Prod.mk.inj h).1
    have h := (Prod.mk.inj h).2
    have e_3 := (Prod.mk.inj h).1
    have h := (Prod.mk.inj h).2
    have e_4 := (Prod.mk.inj h).1
    have h := (Prod.mk.inj h).2
    have e_5 := (Prod.mk.inj h).1
    have h := (Prod.mk.inj h).2
    have e_6 := (Prod.mk.inj h).1
    have h := (Prod.mk.inj h).2
    have e_7 := (Prod.mk.inj h).1
    have h := (Prod.mk.inj h).2
    have e_8 := (Prod.mk.inj h).1
    have h := (Prod.mk.inj h).2
    have e_9 := (Prod.mk.inj h).1
    have h := (Prod.mk.inj h).2
    have e_10 := (Prod.mk.inj h).1
    have h := (Prod.mk.inj h).2
    have e_11 := (Prod.mk.inj h).1
    have h := (Prod.mk.inj h).2
    have e_12 := (Prod.mk.inj h).1
    have h := (Prod.mk.inj h).2
    rw [← e_0, ← e_1, ← e_2, ← e_3, ← e_4, ← e_5, ← e_6, ← e_7, ← e_8, ← e_9, ← e_10, ← e_11, ← e_12, ← h]
    exact jr_v J hS hP hD d_MD_does_394
  replace h := g_f c_39 h
  by_cases c_41 : (p1) = 15
  · replace h := g_t c_41 h
    refine lv_tableIn (off := 319) (tgt := 356) J.1 J.2.1 d_MD_does_37 (by rw [c_41]; decide) (by rw [c_41]; decide) (by rw [c_41]; rfl) (by decide) ?_
    refine lv_aload_n J.1 J.2.1 d_MD_does_356 rfl (lv_at hl 3 rfl) ?_
    refine jg J hJ hP 0 rfl rfl i_MD 6 (by decide) gf_MD_35 rfl d_MD_does_357 ?_
    refine lv_iload J.1 J.2.1 d_MD_does_360 (lv_at hl 2 rfl) ?_
    refine lv_iload J.1 J.2.1 d_MD_does_362 (lv_at hl 9 rfl) ?_
    refine lv_iconst (v := 2) J.1 J.2.1 d_MD_does_364 (by decide) ?_
    refine lv_iadd J.1 J.2.1 d_MD_does_365 ?_
    refine lv_ldc (v := 65536) J.1 J.2.1 J.2.2.2.2.1 (J.2.2.2.2.2.1 _ gk_MD_187) d_MD_does_366 ?_
    refine lv_irem J.1 J.2.1 d_MD_does_368 (by decide) ?_
    replace h := g_ck h
    obtain ⟨k_42, h⟩ := h
    refine jsi J hJ hP hD hS 2 rfl k_42 d_MD_does_369 (WS' := [(n0, .inr (6, [.ref n_tape, .int ztaped, .ref n_isThere, .ref n_size, .ref n_depth, .ref n_memory, .ref n_register, .ref n_mode, .ref n_pc, .ref n_base, .ref n_bound, .ref n_timer, .ref n_ranOut, .ref n_halted, .ref n_steps, .ref n_outs, .ref n_output, .ref n_waits, .ref n_typed, .ref n_disk, .ref n_wants, .int zat, .int zend, .int zline, .ref n_labelFrom, .ref n_labelSize, .ref n_labelAddress, .int zlabels, .int zfault, .int zfaultLine, .int zisTold, .int zaddress, .ref n_made, .int zmissing, .int zgood, .int zvalue, .int zvalueFrom, .int zvalueSize, .int zme])), (n_memory, .inl (E.2.1 0, 3072, .inl zmemory)), (n_register, .inl (E.2.1 0, 24, .inl (upd zregister ((8 * zme) + p2).toNatClampNeg ((p6 + 2) - (p6 + 2) / 65536 * 65536)))), (n_mode, .inl (E.2.1 0, 3, .inl zmode)), (n_pc, .inl (E.2.1 0, 3, .inl zpc)), (n_base, .inl (E.2.1 0, 3, .inl zbase)), (n_bound, .inl (E.2.1 0, 3, .inl zbound)), (n_timer, .inl (E.2.1 0, 3, .inl ztimer)), (n_ranOut, .inl (E.2.1 3, 3, .inl zranOut)), (n_halted, .inl (E.2.1 3, 3, .inl zhalted)), (n_outs, .inl (E.2.1 0, 3, .inl zouts)), (n_output, .inl (E.2.1 0, 1500, .inl zoutput)), (n_waits, .inl (E.2.1 0, 3, .inl zwaits)), (n_typed, .inl (E.2.1 0, 300, .inl ztyped)), (n_disk, .inl (E.2.1 0, 384, .inl zdisk))]) rfl ?_
    clear hP hD hS
    intro H locs hP hD hS
    refine lv_aload_n J.1 J.2.1 d_MD_does_370 rfl (lv_at hl 3 rfl) ?_
    refine jg J hJ hP 0 rfl rfl i_MD 8 (by decide) gf_MD_41 rfl d_MD_does_371 ?_
    refine lv_aload_n J.1 J.2.1 d_MD_does_374 rfl (lv_at hl 3 rfl) ?_
    refine jg J hJ hP 0 rfl rfl i_MD 38 (by decide) gf_MD_261 rfl d_MD_does_375 ?_
    refine lv_iload J.1 J.2.1 d_MD_does_378 (lv_at hl 7 rfl) ?_
    replace h := g_ck h
    obtain ⟨k_43, h⟩ := h
    refine jsi J hJ hP hD hS 4 rfl k_43 d_MD_does_380 (WS' := [(n0, .inr (6, [.ref n_tape, .int ztaped, .ref n_isThere, .ref n_size, .ref n_depth, .ref n_memory, .ref n_register, .ref n_mode, .ref n_pc, .ref n_base, .ref n_bound, .ref n_timer, .ref n_ranOut, .ref n_halted, .ref n_steps, .ref n_outs, .ref n_output, .ref n_waits, .ref n_typed, .ref n_disk, .ref n_wants, .int zat, .int zend, .int zline, .ref n_labelFrom, .ref n_labelSize, .ref n_labelAddress, .int zlabels, .int zfault, .int zfaultLine, .int zisTold, .int zaddress, .ref n_made, .int zmissing, .int zgood, .int zvalue, .int zvalueFrom, .int zvalueSize, .int zme])), (n_memory, .inl (E.2.1 0, 3072, .inl zmemory)), (n_register, .inl (E.2.1 0, 24, .inl (upd zregister ((8 * zme) + p2).toNatClampNeg ((p6 + 2) - (p6 + 2) / 65536 * 65536)))), (n_mode, .inl (E.2.1 0, 3, .inl zmode)), (n_pc, .inl (E.2.1 0, 3, .inl (upd zpc zme.toNatClampNeg p4))), (n_base, .inl (E.2.1 0, 3, .inl zbase)), (n_bound, .inl (E.2.1 0, 3, .inl zbound)), (n_timer, .inl (E.2.1 0, 3, .inl ztimer)), (n_ranOut, .inl (E.2.1 3, 3, .inl zranOut)), (n_halted, .inl (E.2.1 3, 3, .inl zhalted)), (n_outs, .inl (E.2.1 0, 3, .inl zouts)), (n_output, .inl (E.2.1 0, 1500, .inl zoutput)), (n_waits, .inl (E.2.1 0, 3, .inl zwaits)), (n_typed, .inl (E.2.1 0, 300, .inl ztyped)), (n_disk, .inl (E.2.1 0, 384, .inl zdisk))]) rfl ?_
    clear hP hD hS
    intro H locs hP hD hS
    refine lv_goto (tgt := 394) J.1 J.2.1 d_MD_does_381 (by decide) ?_
    have h := Option.some.inj h
    have e_0 := (Prod.mk.inj h).1
    have h := (Prod.mk.inj h).2
    have e_1 := (Prod.mk.inj h).1
    have h := (Prod.mk.inj h).2
    have e_2 := (Prod.mk.inj h).1
    have h := (Prod.mk.inj h).2
    have e_3 := (Prod.mk.inj h).1
    have h := (Prod.mk.inj h).2
    have e_4 := (Prod.mk.inj h).1
    have h := (Prod.mk.inj h).2
    have e_5 := (Prod.mk.inj h).1
    have h := (Prod.mk.inj h).2
    have e_6 := (Prod.mk.inj h).1
    have h := (Prod.mk.inj h).2
    have e_7 := (Prod.mk.inj h).1
    have h := (Prod.mk.inj h).2
    have e_8 := (Prod.mk.inj h).1
    have h := (Prod.mk.inj h).2
    have e_9 := (Prod.mk.inj h).1
    have h := (Prod.mk.inj h).2
    have e_10 := (Prod.mk.inj h).1
    have h := (Prod.mk.inj h).2
    have e_11 := (Prod.mk.inj h).1
    have h := (Prod.mk.inj h).2
    have e_12 := (Prod.mk.inj h).1
    have h := (Prod.mk.inj h).2
    rw [← e_0, ← e_1, ← e_2, ← e_3, ← e_4, ← e_5, ← e_6, ← e_7, ← e_8, ← e_9, ← e_10, ← e_11, ← e_12, ← h]
    exact jr_v J hS hP hD d_MD_does_394
  replace h := g_f c_41 h
  refine lv_tableOut (tgt := 384) J.1 J.2.1 d_MD_does_37 (by have e0 := lv_neT c_3 (a := 0) (by decide); have e1 := lv_neT c_6 (a := 1) (by decide); have e2 := lv_neT c_8 (a := 2) (by decide); have e3 := lv_neT c_11 (a := 3) (by decide); have e4 := lv_neT c_13 (a := 4) (by decide); have e5 := lv_neT c_16 (a := 5) (by decide); have e6 := lv_neT c_18 (a := 6) (by decide); have e7 := lv_neT c_20 (a := 7) (by decide); have e8 := lv_neT c_22 (a := 8) (by decide); have e9 := lv_neT c_24 (a := 9) (by decide); have e10 := lv_neT c_26 (a := 10) (by decide); have e11 := lv_neT c_30 (a := 11) (by decide); have e12 := lv_neT c_34 (a := 12) (by decide); have e13 := lv_neT c_36 (a := 13) (by decide); have e14 := lv_neT c_39 (a := 14) (by decide); have e15 := lv_neT c_41 (a := 15) (by decide); omega) (by decide) ?_
  refine lv_aload_n J.1 J.2.1 d_MD_does_384 rfl (lv_at hl 3 rfl) ?_
  refine lv_iload_n J.1 J.2.1 d_MD_does_385 rfl (lv_at hl 4 rfl) ?_
  refine lv_iload_n J.1 J.2.1 d_MD_does_386 rfl (lv_at hl 5 rfl) ?_
  refine lv_iload J.1 J.2.1 d_MD_does_387 (lv_at hl 7 rfl) ?_
  refine lv_iload J.1 J.2.1 d_MD_does_389 (lv_at hl 8 rfl) ?_
  replace h := g_bd h
  obtain ⟨⟨zmemory_44, zregister_44, zmode_44, zpc_44, zbase_44, zbound_44, ztimer_44, zranOut_44, zouts_44, zoutput_44, zwaits_44, ztyped_44, zdisk_44⟩, q_44, h⟩ := h
  try dsimp only at h
  have hq := ct_MD_rest l E n0 n_base n_bound n_depth n_disk n_halted n_isThere n_labelAddress n_labelFrom n_labelSize n_made n_memory n_mode n_output n_outs n_pc n_ranOut n_register n_size n_steps n_tape n_timer n_typed n_waits n_wants s.heap.size ztaped zat zend zline zlabels zfault zfaultLine zisTold zaddress zmissing zgood zvalue zvalueFrom zvalueSize zme zmemory zregister zmode zpc zbase zbound ztimer zranOut zouts zoutput zwaits ztyped zdisk p1 p2 p4 p5 zmemory_44 zregister_44 zmode_44 zpc_44 zbase_44 zbound_44 ztimer_44 zranOut_44 zouts_44 zoutput_44 zwaits_44 ztyped_44 zdisk_44 q_44
  have hr := jrunV (p := p) (e := e) (below := below) (R := ({ frames := 2, cells := 0, slots := 0, locals := 53 })) (cells := 0) (slots := 0) (As := [.int p1, .int p2, .int p4, .int p5]) (rest := []) J hJ hA hZ hP hD hS hq [0, 1, 2, 3, 4, 5, 6, 7, 8, 10, 11, 12, 13, 14] rfl (by decide) gl_MD_284 gi_MD_rest gsel_MD_rest gini_MD gc_MD_rest hd_MD_rest ⟨rfl, rfl, Nat.le_of_ble_eq_true rfl, Nat.le_of_ble_eq_true rfl⟩ rfl rfl hl.1 rfl rfl (Nat.le_of_ble_eq_true rfl) d_MD_does_391 ⟨Nat.zero_le _, Nat.zero_le _⟩
  clear hq
  refine jk_v hr hA hP hD hS [0, 1, 2, 3, 4, 5, 6, 7, 8, 10, 11, 12, 13, 14] [9] (WR := [(n_halted, .inl (E.2.1 3, 3, .inl zhalted))]) rfl rfl (by decide) (by decide) [1, 2, 3, 4, 5, 6, 7, 8, 9, 0, 10, 11, 12, 13, 14] (WF := [(n0, .inr (6, [.ref n_tape, .int ztaped, .ref n_isThere, .ref n_size, .ref n_depth, .ref n_memory, .ref n_register, .ref n_mode, .ref n_pc, .ref n_base, .ref n_bound, .ref n_timer, .ref n_ranOut, .ref n_halted, .ref n_steps, .ref n_outs, .ref n_output, .ref n_waits, .ref n_typed, .ref n_disk, .ref n_wants, .int zat, .int zend, .int zline, .ref n_labelFrom, .ref n_labelSize, .ref n_labelAddress, .int zlabels, .int zfault, .int zfaultLine, .int zisTold, .int zaddress, .ref n_made, .int zmissing, .int zgood, .int zvalue, .int zvalueFrom, .int zvalueSize, .int zme])), (n_memory, .inl (E.2.1 0, 3072, .inl zmemory_44)), (n_register, .inl (E.2.1 0, 24, .inl zregister_44)), (n_mode, .inl (E.2.1 0, 3, .inl zmode_44)), (n_pc, .inl (E.2.1 0, 3, .inl zpc_44)), (n_base, .inl (E.2.1 0, 3, .inl zbase_44)), (n_bound, .inl (E.2.1 0, 3, .inl zbound_44)), (n_timer, .inl (E.2.1 0, 3, .inl ztimer_44)), (n_ranOut, .inl (E.2.1 3, 3, .inl zranOut_44)), (n_halted, .inl (E.2.1 3, 3, .inl zhalted)), (n_outs, .inl (E.2.1 0, 3, .inl zouts_44)), (n_output, .inl (E.2.1 0, 1500, .inl zoutput_44)), (n_waits, .inl (E.2.1 0, 3, .inl zwaits_44)), (n_typed, .inl (E.2.1 0, 300, .inl ztyped_44)), (n_disk, .inl (E.2.1 0, 384, .inl zdisk_44))]) rfl (by decide) ?_
  clear hP hD hS
  intro H locs hP hD hS
  clear hr
  have h := Option.some.inj h
  have e_0 := (Prod.mk.inj h).1
  have h := (Prod.mk.inj h).2
  have e_1 := (Prod.mk.inj h).1
  have h := (Prod.mk.inj h).2
  have e_2 := (Prod.mk.inj h).1
  have h := (Prod.mk.inj h).2
  have e_3 := (Prod.mk.inj h).1
  have h := (Prod.mk.inj h).2
  have e_4 := (Prod.mk.inj h).1
  have h := (Prod.mk.inj h).2
  have e_5 := (Prod.mk.inj h).1
  have h := (Prod.mk.inj h).2
  have e_6 := (Prod.mk.inj h).1
  have h := (Prod.mk.inj h).2
  have e_7 := (Prod.mk.inj h).1
  have h := (Prod.mk.inj h).2
  have e_8 := (Prod.mk.inj h).1
  have h := (Prod.mk.inj h).2
  have e_9 := (Prod.mk.inj h).1
  have h := (Prod.mk.inj h).2
  have e_10 := (Prod.mk.inj h).1
  have h := (Prod.mk.inj h).2
  have e_11 := (Prod.mk.inj h).1
  have h := (Prod.mk.inj h).2
  have e_12 := (Prod.mk.inj h).1
  have h := (Prod.mk.inj h).2
  rw [← e_0, ← e_1, ← e_2, ← e_3, ← e_4, ← e_5, ← e_6, ← e_7, ← e_8, ← e_9, ← e_10, ← e_11, ← e_12, ← h]
  exact jr_v J hS hP hD d_MD_does_394

theorem hd_MD_step : y_MD_step.cls ≠ "java/lang/invoke/MethodHandle" ∧ y_MD_step.cls ≠ "java/lang/invoke/VarHandle" ∧ (parseMethodDescriptor y_MD_step.desc).map (fun d => d.parameters.length) = some 0 := by decide +kernel
def b_MD_step_320 (zme : Int32) (zmemory : Nat → Int32) (zregister : Nat → Int32) (zmode : Nat → Int32) (zpc : Nat → Int32) (zbase : Nat → Int32) (zbound : Nat → Int32) (ztimer : Nat → Int32) (zranOut : Nat → Int32) (zhalted : Nat → Int32) (zsteps : Nat → Int32) (zouts : Nat → Int32) (zoutput : Nat → Int32) (zwaits : Nat → Int32) (ztyped : Nat → Int32) (zdisk : Nat → Int32) (x1 : Int32) (x3 : Int32) (x4 : Int32) (x5 : Int32) (x6 : Int32) (x8 : Int32) : Option ((Nat → Int32) × (Nat → Int32) × (Nat → Int32) × (Nat → Int32) × (Nat → Int32) × (Nat → Int32) × (Nat → Int32) × (Nat → Int32) × (Nat → Int32) × (Nat → Int32) × (Nat → Int32) × (Nat → Int32) × (Nat → Int32) × (Nat → Int32) × (Nat → Int32)) := (if ck zme 3 then ((f_MD_does zme zmemory zregister zmode (upd zpc zme.toNatClampNeg ((x1 + 2) - (x1 + 2) / 65536 * 65536)) zbase zbound ztimer zranOut zhalted zouts zoutput zwaits ztyped zdisk x5 ((x3 / 8) - (x3 / 8) / 8 * 8) (x3 - x3 / 8 * 8) x4 x6 x1).bind fun (zmemory_2, zregister_2, zmode_2, zpc_2, zbase_2, zbound_2, ztimer_2, zranOut_2, zhalted_2, zouts_2, zoutput_2, zwaits_2, ztyped_2, zdisk_2) => (if x8 = (0 : Int32) then (some (zmemory_2, zregister_2, zmode_2, zpc_2, zbase_2, zbound_2, ztimer_2, zranOut_2, zhalted_2, zsteps, zouts_2, zoutput_2, zwaits_2, ztyped_2, zdisk_2)) else (if ck zme 3 then (if ck zme 3 then (if ck zme 3 then (if ((upd ztimer_2 zme.toNatClampNeg ((ztimer_2 zme.toNatClampNeg) - 1)) zme.toNatClampNeg) = (0 : Int32) then (if ck zme 3 then (some (zmemory_2, zregister_2, zmode_2, zpc_2, zbase_2, zbound_2, (upd ztimer_2 zme.toNatClampNeg ((ztimer_2 zme.toNatClampNeg) - 1)), (upd zranOut_2 zme.toNatClampNeg (vp_nar .boolean 1)), zhalted_2, zsteps, zouts_2, zoutput_2, zwaits_2, ztyped_2, zdisk_2)) else none) else (if ck zme 3 then (some (zmemory_2, zregister_2, zmode_2, zpc_2, zbase_2, zbound_2, (upd ztimer_2 zme.toNatClampNeg ((ztimer_2 zme.toNatClampNeg) - 1)), (upd zranOut_2 zme.toNatClampNeg (vp_nar .boolean 0)), zhalted_2, zsteps, zouts_2, zoutput_2, zwaits_2, ztyped_2, zdisk_2)) else none)) else none) else none) else none))) else none)
def b_MD_step_317 (zme : Int32) (zmemory : Nat → Int32) (zregister : Nat → Int32) (zmode : Nat → Int32) (zpc : Nat → Int32) (zbase : Nat → Int32) (zbound : Nat → Int32) (ztimer : Nat → Int32) (zranOut : Nat → Int32) (zhalted : Nat → Int32) (zsteps : Nat → Int32) (zouts : Nat → Int32) (zoutput : Nat → Int32) (zwaits : Nat → Int32) (ztyped : Nat → Int32) (zdisk : Nat → Int32) (x1 : Int32) (x3 : Int32) (x4 : Int32) (x5 : Int32) (x6 : Int32) : Option ((Nat → Int32) × (Nat → Int32) × (Nat → Int32) × (Nat → Int32) × (Nat → Int32) × (Nat → Int32) × (Nat → Int32) × (Nat → Int32) × (Nat → Int32) × (Nat → Int32) × (Nat → Int32) × (Nat → Int32) × (Nat → Int32) × (Nat → Int32) × (Nat → Int32)) := b_MD_step_320 zme zmemory zregister zmode zpc zbase zbound ztimer zranOut zhalted zsteps zouts zoutput zwaits ztyped zdisk x1 x3 x4 x5 x6 0
def b_MD_step_246 (zme : Int32) (zsize : Nat → Int32) (zmemory : Nat → Int32) (zregister : Nat → Int32) (zmode : Nat → Int32) (zpc : Nat → Int32) (zbase : Nat → Int32) (zbound : Nat → Int32) (ztimer : Nat → Int32) (zranOut : Nat → Int32) (zhalted : Nat → Int32) (zsteps : Nat → Int32) (zouts : Nat → Int32) (zoutput : Nat → Int32) (zwaits : Nat → Int32) (ztyped : Nat → Int32) (zdisk : Nat → Int32) (x1 : Int32) (x3 : Int32) (x4 : Int32) (x5 : Int32) (x6 : Int32) (x7 : Int32) : Option ((Nat → Int32) × (Nat → Int32) × (Nat → Int32) × (Nat → Int32) × (Nat → Int32) × (Nat → Int32) × (Nat → Int32) × (Nat → Int32) × (Nat → Int32) × (Nat → Int32) × (Nat → Int32) × (Nat → Int32) × (Nat → Int32) × (Nat → Int32) × (Nat → Int32)) := ((f_MD_bad zme zsize zbase zbound x6 x7).bind fun r_10 => (if r_10 < (0 : Int32) then (if x5 = (16 : Int32) then ((f_MD_trap zme zmemory zmode zpc zbase zbound zranOut 3 x4 ((x1 + 2) - (x1 + 2) / 65536 * 65536)).bind fun (zmemory_17, zmode_17, zpc_17, zbase_17, zbound_17, zranOut_17) => (some (zmemory_17, zregister, zmode_17, zpc_17, zbase_17, zbound_17, ztimer, zranOut_17, zhalted, zsteps, zouts, zoutput, zwaits, ztyped, zdisk))) else (if ck zme 3 then (if (zmode zme.toNatClampNeg) = (1 : Int32) then (if ck zme 3 then (if (ztimer zme.toNatClampNeg) ≤ (0 : Int32) then b_MD_step_317 zme zmemory zregister zmode zpc zbase zbound ztimer zranOut zhalted zsteps zouts zoutput zwaits ztyped zdisk x1 x3 x4 x5 x6 else b_MD_step_320 zme zmemory zregister zmode zpc zbase zbound ztimer zranOut zhalted zsteps zouts zoutput zwaits ztyped zdisk x1 x3 x4 x5 x6 1) else none) else b_MD_step_317 zme zmemory zregister zmode zpc zbase zbound ztimer zranOut zhalted zsteps zouts zoutput zwaits ztyped zdisk x1 x3 x4 x5 x6) else none)) else ((f_MD_trap zme zmemory zmode zpc zbase zbound zranOut 2 r_10 x1).bind fun (zmemory_18, zmode_18, zpc_18, zbase_18, zbound_18, zranOut_18) => (some (zmemory_18, zregister, zmode_18, zpc_18, zbase_18, zbound_18, ztimer, zranOut_18, zhalted, zsteps, zouts, zoutput, zwaits, ztyped, zdisk)))))
def b_MD_step_227 (zme : Int32) (zsize : Nat → Int32) (zmemory : Nat → Int32) (zregister : Nat → Int32) (zmode : Nat → Int32) (zpc : Nat → Int32) (zbase : Nat → Int32) (zbound : Nat → Int32) (ztimer : Nat → Int32) (zranOut : Nat → Int32) (zhalted : Nat → Int32) (zsteps : Nat → Int32) (zouts : Nat → Int32) (zoutput : Nat → Int32) (zwaits : Nat → Int32) (ztyped : Nat → Int32) (zdisk : Nat → Int32) (x1 : Int32) (x3 : Int32) (x4 : Int32) (x5 : Int32) (x6 : Int32) : Option ((Nat → Int32) × (Nat → Int32) × (Nat → Int32) × (Nat → Int32) × (Nat → Int32) × (Nat → Int32) × (Nat → Int32) × (Nat → Int32) × (Nat → Int32) × (Nat → Int32) × (Nat → Int32) × (Nat → Int32) × (Nat → Int32) × (Nat → Int32) × (Nat → Int32)) := b_MD_step_246 zme zsize zmemory zregister zmode zpc zbase zbound ztimer zranOut zhalted zsteps zouts zoutput zwaits ztyped zdisk x1 x3 x4 x5 x6 4
def b_MD_step_213 (zme : Int32) (zsize : Nat → Int32) (zmemory : Nat → Int32) (zregister : Nat → Int32) (zmode : Nat → Int32) (zpc : Nat → Int32) (zbase : Nat → Int32) (zbound : Nat → Int32) (ztimer : Nat → Int32) (zranOut : Nat → Int32) (zhalted : Nat → Int32) (zsteps : Nat → Int32) (zouts : Nat → Int32) (zoutput : Nat → Int32) (zwaits : Nat → Int32) (ztyped : Nat → Int32) (zdisk : Nat → Int32) (x1 : Int32) (x3 : Int32) (x4 : Int32) (x5 : Int32) (x6 : Int32) : Option ((Nat → Int32) × (Nat → Int32) × (Nat → Int32) × (Nat → Int32) × (Nat → Int32) × (Nat → Int32) × (Nat → Int32) × (Nat → Int32) × (Nat → Int32) × (Nat → Int32) × (Nat → Int32) × (Nat → Int32) × (Nat → Int32) × (Nat → Int32) × (Nat → Int32)) := (if x5 = (17 : Int32) then b_MD_step_227 zme zsize zmemory zregister zmode zpc zbase zbound ztimer zranOut zhalted zsteps zouts zoutput zwaits ztyped zdisk x1 x3 x4 x5 x6 else (if x5 = (18 : Int32) then b_MD_step_227 zme zsize zmemory zregister zmode zpc zbase zbound ztimer zranOut zhalted zsteps zouts zoutput zwaits ztyped zdisk x1 x3 x4 x5 x6 else (if x5 ≤ (22 : Int32) then b_MD_step_246 zme zsize zmemory zregister zmode zpc zbase zbound ztimer zranOut zhalted zsteps zouts zoutput zwaits ztyped zdisk x1 x3 x4 x5 x6 0 else b_MD_step_246 zme zsize zmemory zregister zmode zpc zbase zbound ztimer zranOut zhalted zsteps zouts zoutput zwaits ztyped zdisk x1 x3 x4 x5 x6 16)))
def b_MD_step_196 (zme : Int32) (zsize : Nat → Int32) (zmemory : Nat → Int32) (zregister : Nat → Int32) (zmode : Nat → Int32) (zpc : Nat → Int32) (zbase : Nat → Int32) (zbound : Nat → Int32) (ztimer : Nat → Int32) (zranOut : Nat → Int32) (zhalted : Nat → Int32) (zsteps : Nat → Int32) (zouts : Nat → Int32) (zoutput : Nat → Int32) (zwaits : Nat → Int32) (ztyped : Nat → Int32) (zdisk : Nat → Int32) (x1 : Int32) (x3 : Int32) (x4 : Int32) (x5 : Int32) (x6 : Int32) : Option ((Nat → Int32) × (Nat → Int32) × (Nat → Int32) × (Nat → Int32) × (Nat → Int32) × (Nat → Int32) × (Nat → Int32) × (Nat → Int32) × (Nat → Int32) × (Nat → Int32) × (Nat → Int32) × (Nat → Int32) × (Nat → Int32) × (Nat → Int32) × (Nat → Int32)) := (if x5 ≤ (1 : Int32) then b_MD_step_213 zme zsize zmemory zregister zmode zpc zbase zbound ztimer zranOut zhalted zsteps zouts zoutput zwaits ztyped zdisk x1 x3 x4 x5 x6 else (if (6 : Int32) ≤ x5 then b_MD_step_213 zme zsize zmemory zregister zmode zpc zbase zbound ztimer zranOut zhalted zsteps zouts zoutput zwaits ztyped zdisk x1 x3 x4 x5 x6 else b_MD_step_246 zme zsize zmemory zregister zmode zpc zbase zbound ztimer zranOut zhalted zsteps zouts zoutput zwaits ztyped zdisk x1 x3 x4 x5 x6 1))
def b_MD_step_166 (zme : Int32) (zsize : Nat → Int32) (zmemory : Nat → Int32) (zregister : Nat → Int32) (zmode : Nat → Int32) (zpc : Nat → Int32) (zbase : Nat → Int32) (zbound : Nat → Int32) (ztimer : Nat → Int32) (zranOut : Nat → Int32) (zhalted : Nat → Int32) (zsteps : Nat → Int32) (zouts : Nat → Int32) (zoutput : Nat → Int32) (zwaits : Nat → Int32) (ztyped : Nat → Int32) (zdisk : Nat → Int32) (x1 : Int32) (x3 : Int32) (x4 : Int32) (x5 : Int32) : Option ((Nat → Int32) × (Nat → Int32) × (Nat → Int32) × (Nat → Int32) × (Nat → Int32) × (Nat → Int32) × (Nat → Int32) × (Nat → Int32) × (Nat → Int32) × (Nat → Int32) × (Nat → Int32) × (Nat → Int32) × (Nat → Int32) × (Nat → Int32) × (Nat → Int32)) := (if ck ((8 * zme) + (x3 - x3 / 8 * 8)) 24 then b_MD_step_196 zme zsize zmemory zregister zmode zpc zbase zbound ztimer zranOut zhalted zsteps zouts zoutput zwaits ztyped zdisk x1 x3 x4 x5 (((zregister ((8 * zme) + (x3 - x3 / 8 * 8)).toNatClampNeg) + x4) - ((zregister ((8 * zme) + (x3 - x3 / 8 * 8)).toNatClampNeg) + x4) / 65536 * 65536) else none)
def b_MD_step_147 (zme : Int32) (zsize : Nat → Int32) (zmemory : Nat → Int32) (zregister : Nat → Int32) (zmode : Nat → Int32) (zpc : Nat → Int32) (zbase : Nat → Int32) (zbound : Nat → Int32) (ztimer : Nat → Int32) (zranOut : Nat → Int32) (zhalted : Nat → Int32) (zsteps : Nat → Int32) (zouts : Nat → Int32) (zoutput : Nat → Int32) (zwaits : Nat → Int32) (ztyped : Nat → Int32) (zdisk : Nat → Int32) (x1 : Int32) (x3 : Int32) (x4 : Int32) (x5 : Int32) : Option ((Nat → Int32) × (Nat → Int32) × (Nat → Int32) × (Nat → Int32) × (Nat → Int32) × (Nat → Int32) × (Nat → Int32) × (Nat → Int32) × (Nat → Int32) × (Nat → Int32) × (Nat → Int32) × (Nat → Int32) × (Nat → Int32) × (Nat → Int32) × (Nat → Int32)) := (if x5 = (4 : Int32) then b_MD_step_166 zme zsize zmemory zregister zmode zpc zbase zbound ztimer zranOut zhalted zsteps zouts zoutput zwaits ztyped zdisk x1 x3 x4 x5 else (if x5 = (5 : Int32) then b_MD_step_166 zme zsize zmemory zregister zmode zpc zbase zbound ztimer zranOut zhalted zsteps zouts zoutput zwaits ztyped zdisk x1 x3 x4 x5 else (if x5 ≤ (22 : Int32) then b_MD_step_196 zme zsize zmemory zregister zmode zpc zbase zbound ztimer zranOut zhalted zsteps zouts zoutput zwaits ztyped zdisk x1 x3 x4 x5 x4 else b_MD_step_166 zme zsize zmemory zregister zmode zpc zbase zbound ztimer zranOut zhalted zsteps zouts zoutput zwaits ztyped zdisk x1 x3 x4 x5)))
def b_MD_step_56 (zme : Int32) (zsize : Nat → Int32) (zmemory : Nat → Int32) (zregister : Nat → Int32) (zmode : Nat → Int32) (zpc : Nat → Int32) (zbase : Nat → Int32) (zbound : Nat → Int32) (ztimer : Nat → Int32) (zranOut : Nat → Int32) (zhalted : Nat → Int32) (zsteps : Nat → Int32) (zouts : Nat → Int32) (zoutput : Nat → Int32) (zwaits : Nat → Int32) (ztyped : Nat → Int32) (zdisk : Nat → Int32) (x1 : Int32) : Option ((Nat → Int32) × (Nat → Int32) × (Nat → Int32) × (Nat → Int32) × (Nat → Int32) × (Nat → Int32) × (Nat → Int32) × (Nat → Int32) × (Nat → Int32) × (Nat → Int32) × (Nat → Int32) × (Nat → Int32) × (Nat → Int32) × (Nat → Int32) × (Nat → Int32)) := ((f_MD_bad zme zsize zbase zbound x1 2).bind fun r_28 => (if r_28 < (0 : Int32) then ((f_MD_get zme zmemory zbase x1).bind fun r_30 => ((f_MD_get zme zmemory zbase ((x1 + 1) - (x1 + 1) / 65536 * 65536)).bind fun r_31 => (if (r_30 / 64) ≤ (24 : Int32) then (if ck zme 3 then (if (zmode zme.toNatClampNeg) = (1 : Int32) then (if (r_30 / 64) = (0 : Int32) then ((f_MD_trap zme zmemory zmode zpc zbase zbound zranOut 1 r_30 x1).bind fun (zmemory_36, zmode_36, zpc_36, zbase_36, zbound_36, zranOut_36) => (some (zmemory_36, zregister, zmode_36, zpc_36, zbase_36, zbound_36, ztimer, zranOut_36, zhalted, zsteps, zouts, zoutput, zwaits, ztyped, zdisk))) else (if (r_30 / 64) ≤ (16 : Int32) then b_MD_step_147 zme zsize zmemory zregister zmode zpc zbase zbound ztimer zranOut zhalted zsteps zouts zoutput zwaits ztyped zdisk x1 r_30 r_31 (r_30 / 64) else ((f_MD_trap zme zmemory zmode zpc zbase zbound zranOut 1 r_30 x1).bind fun (zmemory_38, zmode_38, zpc_38, zbase_38, zbound_38, zranOut_38) => (some (zmemory_38, zregister, zmode_38, zpc_38, zbase_38, zbound_38, ztimer, zranOut_38, zhalted, zsteps, zouts, zoutput, zwaits, ztyped, zdisk))))) else b_MD_step_147 zme zsize zmemory zregister zmode zpc zbase zbound ztimer zranOut zhalted zsteps zouts zoutput zwaits ztyped zdisk x1 r_30 r_31 (r_30 / 64)) else none) else ((f_MD_trap zme zmemory zmode zpc zbase zbound zranOut 5 r_30 x1).bind fun (zmemory_39, zmode_39, zpc_39, zbase_39, zbound_39, zranOut_39) => (some (zmemory_39, zregister, zmode_39, zpc_39, zbase_39, zbound_39, ztimer, zranOut_39, zhalted, zsteps, zouts, zoutput, zwaits, ztyped, zdisk)))))) else ((f_MD_trap zme zmemory zmode zpc zbase zbound zranOut 2 r_28 x1).bind fun (zmemory_40, zmode_40, zpc_40, zbase_40, zbound_40, zranOut_40) => (some (zmemory_40, zregister, zmode_40, zpc_40, zbase_40, zbound_40, ztimer, zranOut_40, zhalted, zsteps, zouts, zoutput, zwaits, ztyped, zdisk)))))
def f_MD_step (zme : Int32) (zsize : Nat → Int32) (zmemory : Nat → Int32) (zregister : Nat → Int32) (zmode : Nat → Int32) (zpc : Nat → Int32) (zbase : Nat → Int32) (zbound : Nat → Int32) (ztimer : Nat → Int32) (zranOut : Nat → Int32) (zhalted : Nat → Int32) (zsteps : Nat → Int32) (zouts : Nat → Int32) (zoutput : Nat → Int32) (zwaits : Nat → Int32) (ztyped : Nat → Int32) (zdisk : Nat → Int32) : Option ((Nat → Int32) × (Nat → Int32) × (Nat → Int32) × (Nat → Int32) × (Nat → Int32) × (Nat → Int32) × (Nat → Int32) × (Nat → Int32) × (Nat → Int32) × (Nat → Int32) × (Nat → Int32) × (Nat → Int32) × (Nat → Int32) × (Nat → Int32) × (Nat → Int32)) := (if ck zme 3 then (if ck zme 3 then (if ck zme 3 then (if ck zme 3 then (if (zmode zme.toNatClampNeg) = (1 : Int32) then (if ck zme 3 then (if (zranOut zme.toNatClampNeg) = (0 : Int32) then b_MD_step_56 zme zsize zmemory zregister zmode zpc zbase zbound ztimer zranOut zhalted (upd zsteps zme.toNatClampNeg ((zsteps zme.toNatClampNeg) + 1)) zouts zoutput zwaits ztyped zdisk (zpc zme.toNatClampNeg) else ((f_MD_trap zme zmemory zmode zpc zbase zbound zranOut 4 0 (zpc zme.toNatClampNeg)).bind fun (zmemory_48, zmode_48, zpc_48, zbase_48, zbound_48, zranOut_48) => (some (zmemory_48, zregister, zmode_48, zpc_48, zbase_48, zbound_48, ztimer, zranOut_48, zhalted, (upd zsteps zme.toNatClampNeg ((zsteps zme.toNatClampNeg) + 1)), zouts, zoutput, zwaits, ztyped, zdisk)))) else none) else b_MD_step_56 zme zsize zmemory zregister zmode zpc zbase zbound ztimer zranOut zhalted (upd zsteps zme.toNatClampNeg ((zsteps zme.toNatClampNeg) + 1)) zouts zoutput zwaits ztyped zdisk (zpc zme.toNatClampNeg)) else none) else none) else none) else none)
set_option maxHeartbeats 4000000 in
set_option maxRecDepth 100000 in
theorem kb_MD_step_320 {p : Program} {l : Launch} {e : Env} {s : State} {m : MethodId} {below : List Frame} {meth : Method} {c : Code} {A : Nat → Prop} {E : jz_E} {n0 n_base n_bound n_depth n_disk n_halted n_isThere n_labelAddress n_labelFrom n_labelSize n_made n_memory n_mode n_output n_outs n_pc n_ranOut n_register n_size n_steps n_tape n_timer n_typed n_waits n_wants : Nat} {o_zmemory : Nat → Int32} {o_zregister : Nat → Int32} {o_zmode : Nat → Int32} {o_zpc : Nat → Int32} {o_zbase : Nat → Int32} {o_zbound : Nat → Int32} {o_ztimer : Nat → Int32} {o_zranOut : Nat → Int32} {o_zhalted : Nat → Int32} {o_zsteps : Nat → Int32} {o_zouts : Nat → Int32} {o_zoutput : Nat → Int32} {o_zwaits : Nat → Int32} {o_ztyped : Nat → Int32} {o_zdisk : Nat → Int32} (J : JC p s m ([.ref n0] : List Value).toArray meth c c_MD_step 9 none y_MD_step.cls) (hJ : jE E s) (hA : ∀ q : Nat, s.heap.size ≤ q → A q) (hZ : jz_ok E A s s.heap) : ∀ (ztaped : Int32) (zat : Int32) (zend : Int32) (zline : Int32) (zlabels : Int32) (zfault : Int32) (zfaultLine : Int32) (zisTold : Int32) (zaddress : Int32) (zmissing : Int32) (zgood : Int32) (zvalue : Int32) (zvalueFrom : Int32) (zvalueSize : Int32) (zme : Int32) (zsize : Nat → Int32) (zmemory : Nat → Int32) (zregister : Nat → Int32) (zmode : Nat → Int32) (zpc : Nat → Int32) (zbase : Nat → Int32) (zbound : Nat → Int32) (ztimer : Nat → Int32) (zranOut : Nat → Int32) (zhalted : Nat → Int32) (zsteps : Nat → Int32) (zouts : Nat → Int32) (zoutput : Nat → Int32) (zwaits : Nat → Int32) (ztyped : Nat → Int32) (zdisk : Nat → Int32) (x1 : Int32) (x3 : Int32) (x4 : Int32) (x5 : Int32) (x6 : Int32) (x8 : Int32) (H : Heap) (locs : List Loc) (ls : Array Slot), b_MD_step_320 zme zmemory zregister zmode zpc zbase zbound ztimer zranOut zhalted zsteps zouts zoutput zwaits ztyped zdisk x1 x3 x4 x5 x6 x8 = some (o_zmemory, o_zregister, o_zmode, o_zpc, o_zbase, o_zbound, o_ztimer, o_zranOut, o_zhalted, o_zsteps, o_zouts, o_zoutput, o_zwaits, o_ztyped, o_zdisk) → va_P E.1 classes [(n0, .inr (6, [.ref n_tape, .int ztaped, .ref n_isThere, .ref n_size, .ref n_depth, .ref n_memory, .ref n_register, .ref n_mode, .ref n_pc, .ref n_base, .ref n_bound, .ref n_timer, .ref n_ranOut, .ref n_halted, .ref n_steps, .ref n_outs, .ref n_output, .ref n_waits, .ref n_typed, .ref n_disk, .ref n_wants, .int zat, .int zend, .int zline, .ref n_labelFrom, .ref n_labelSize, .ref n_labelAddress, .int zlabels, .int zfault, .int zfaultLine, .int zisTold, .int zaddress, .ref n_made, .int zmissing, .int zgood, .int zvalue, .int zvalueFrom, .int zvalueSize, .int zme])), (n_size, .inl (E.2.1 0, 3, .inl zsize)), (n_memory, .inl (E.2.1 0, 3072, .inl zmemory)), (n_register, .inl (E.2.1 0, 24, .inl zregister)), (n_mode, .inl (E.2.1 0, 3, .inl zmode)), (n_pc, .inl (E.2.1 0, 3, .inl zpc)), (n_base, .inl (E.2.1 0, 3, .inl zbase)), (n_bound, .inl (E.2.1 0, 3, .inl zbound)), (n_timer, .inl (E.2.1 0, 3, .inl ztimer)), (n_ranOut, .inl (E.2.1 3, 3, .inl zranOut)), (n_halted, .inl (E.2.1 3, 3, .inl zhalted)), (n_steps, .inl (E.2.1 0, 3, .inl zsteps)), (n_outs, .inl (E.2.1 0, 3, .inl zouts)), (n_output, .inl (E.2.1 0, 1500, .inl zoutput)), (n_waits, .inl (E.2.1 0, 3, .inl zwaits)), (n_typed, .inl (E.2.1 0, 300, .inl ztyped)), (n_disk, .inl (E.2.1 0, 384, .inl zdisk))] H → va_D A [(n0, .inr (6, [.ref n_tape, .int ztaped, .ref n_isThere, .ref n_size, .ref n_depth, .ref n_memory, .ref n_register, .ref n_mode, .ref n_pc, .ref n_base, .ref n_bound, .ref n_timer, .ref n_ranOut, .ref n_halted, .ref n_steps, .ref n_outs, .ref n_output, .ref n_waits, .ref n_typed, .ref n_disk, .ref n_wants, .int zat, .int zend, .int zline, .ref n_labelFrom, .ref n_labelSize, .ref n_labelAddress, .int zlabels, .int zfault, .int zfaultLine, .int zisTold, .int zaddress, .ref n_made, .int zmissing, .int zgood, .int zvalue, .int zvalueFrom, .int zvalueSize, .int zme])), (n_size, .inl (E.2.1 0, 3, .inl zsize)), (n_memory, .inl (E.2.1 0, 3072, .inl zmemory)), (n_register, .inl (E.2.1 0, 24, .inl zregister)), (n_mode, .inl (E.2.1 0, 3, .inl zmode)), (n_pc, .inl (E.2.1 0, 3, .inl zpc)), (n_base, .inl (E.2.1 0, 3, .inl zbase)), (n_bound, .inl (E.2.1 0, 3, .inl zbound)), (n_timer, .inl (E.2.1 0, 3, .inl ztimer)), (n_ranOut, .inl (E.2.1 3, 3, .inl zranOut)), (n_halted, .inl (E.2.1 3, 3, .inl zhalted)), (n_steps, .inl (E.2.1 0, 3, .inl zsteps)), (n_outs, .inl (E.2.1 0, 3, .inl zouts)), (n_output, .inl (E.2.1 0, 1500, .inl zoutput)), (n_waits, .inl (E.2.1 0, 3, .inl zwaits)), (n_typed, .inl (E.2.1 0, 300, .inl ztyped)), (n_disk, .inl (E.2.1 0, 384, .inl zdisk))] → va_S A s.heap H locs → lv_has ls 9 [(0, .ref n0), (1, .int x1), (3, .int x3), (4, .int x4), (5, .int x5), (6, .int x6), (8, .int x8)] → W p l e ({ frames := 3, cells := 0, slots := 0, locals := 82 }) s m ([.ref n0] : List Value).toArray below meth c H locs 0 0 (MQ below (va_Qv (fun (u : va_W) => u = [(n0, .inr (6, [.ref n_tape, .int ztaped, .ref n_isThere, .ref n_size, .ref n_depth, .ref n_memory, .ref n_register, .ref n_mode, .ref n_pc, .ref n_base, .ref n_bound, .ref n_timer, .ref n_ranOut, .ref n_halted, .ref n_steps, .ref n_outs, .ref n_output, .ref n_waits, .ref n_typed, .ref n_disk, .ref n_wants, .int zat, .int zend, .int zline, .ref n_labelFrom, .ref n_labelSize, .ref n_labelAddress, .int zlabels, .int zfault, .int zfaultLine, .int zisTold, .int zaddress, .ref n_made, .int zmissing, .int zgood, .int zvalue, .int zvalueFrom, .int zvalueSize, .int zme])), (n_size, .inl (E.2.1 0, 3, .inl zsize)), (n_memory, .inl (E.2.1 0, 3072, .inl o_zmemory)), (n_register, .inl (E.2.1 0, 24, .inl o_zregister)), (n_mode, .inl (E.2.1 0, 3, .inl o_zmode)), (n_pc, .inl (E.2.1 0, 3, .inl o_zpc)), (n_base, .inl (E.2.1 0, 3, .inl o_zbase)), (n_bound, .inl (E.2.1 0, 3, .inl o_zbound)), (n_timer, .inl (E.2.1 0, 3, .inl o_ztimer)), (n_ranOut, .inl (E.2.1 3, 3, .inl o_zranOut)), (n_halted, .inl (E.2.1 3, 3, .inl o_zhalted)), (n_steps, .inl (E.2.1 0, 3, .inl o_zsteps)), (n_outs, .inl (E.2.1 0, 3, .inl o_zouts)), (n_output, .inl (E.2.1 0, 1500, .inl o_zoutput)), (n_waits, .inl (E.2.1 0, 3, .inl o_zwaits)), (n_typed, .inl (E.2.1 0, 300, .inl o_ztyped)), (n_disk, .inl (E.2.1 0, 384, .inl o_zdisk))]) (BW E A) A) ([.ref n0] : List Value).toArray s 0 0 A) (F0 m 320 ls []) := by
  intro ztaped zat zend zline zlabels zfault zfaultLine zisTold zaddress zmissing zgood zvalue zvalueFrom zvalueSize zme zsize zmemory zregister zmode zpc zbase zbound ztimer zranOut zhalted zsteps zouts zoutput zwaits ztyped zdisk x1 x3 x4 x5 x6 x8 H locs ls h hP hD hS hl
  rw [b_MD_step_320] at h
  refine lv_aload_n J.1 J.2.1 d_MD_step_320 rfl (lv_at hl 0 rfl) ?_
  refine jg J hJ hP 0 rfl rfl i_MD 8 (by decide) gf_MD_41 rfl d_MD_step_321 ?_
  refine lv_aload_n J.1 J.2.1 d_MD_step_324 rfl (lv_at hl 0 rfl) ?_
  refine jg J hJ hP 0 rfl rfl i_MD 38 (by decide) gf_MD_261 rfl d_MD_step_325 ?_
  refine lv_iload_n J.1 J.2.1 d_MD_step_328 rfl (lv_at hl 1 rfl) ?_
  refine lv_iconst (v := 2) J.1 J.2.1 d_MD_step_329 (by decide) ?_
  refine lv_iadd J.1 J.2.1 d_MD_step_330 ?_
  refine lv_ldc (v := 65536) J.1 J.2.1 J.2.2.2.2.1 (J.2.2.2.2.2.1 _ gk_MD_187) d_MD_step_331 ?_
  refine lv_irem J.1 J.2.1 d_MD_step_333 (by decide) ?_
  replace h := g_ck h
  obtain ⟨k_1, h⟩ := h
  refine jsi J hJ hP hD hS 5 rfl k_1 d_MD_step_334 (WS' := [(n0, .inr (6, [.ref n_tape, .int ztaped, .ref n_isThere, .ref n_size, .ref n_depth, .ref n_memory, .ref n_register, .ref n_mode, .ref n_pc, .ref n_base, .ref n_bound, .ref n_timer, .ref n_ranOut, .ref n_halted, .ref n_steps, .ref n_outs, .ref n_output, .ref n_waits, .ref n_typed, .ref n_disk, .ref n_wants, .int zat, .int zend, .int zline, .ref n_labelFrom, .ref n_labelSize, .ref n_labelAddress, .int zlabels, .int zfault, .int zfaultLine, .int zisTold, .int zaddress, .ref n_made, .int zmissing, .int zgood, .int zvalue, .int zvalueFrom, .int zvalueSize, .int zme])), (n_size, .inl (E.2.1 0, 3, .inl zsize)), (n_memory, .inl (E.2.1 0, 3072, .inl zmemory)), (n_register, .inl (E.2.1 0, 24, .inl zregister)), (n_mode, .inl (E.2.1 0, 3, .inl zmode)), (n_pc, .inl (E.2.1 0, 3, .inl (upd zpc zme.toNatClampNeg ((x1 + 2) - (x1 + 2) / 65536 * 65536)))), (n_base, .inl (E.2.1 0, 3, .inl zbase)), (n_bound, .inl (E.2.1 0, 3, .inl zbound)), (n_timer, .inl (E.2.1 0, 3, .inl ztimer)), (n_ranOut, .inl (E.2.1 3, 3, .inl zranOut)), (n_halted, .inl (E.2.1 3, 3, .inl zhalted)), (n_steps, .inl (E.2.1 0, 3, .inl zsteps)), (n_outs, .inl (E.2.1 0, 3, .inl zouts)), (n_output, .inl (E.2.1 0, 1500, .inl zoutput)), (n_waits, .inl (E.2.1 0, 3, .inl zwaits)), (n_typed, .inl (E.2.1 0, 300, .inl ztyped)), (n_disk, .inl (E.2.1 0, 384, .inl zdisk))]) rfl ?_
  clear hP hD hS
  intro H locs hP hD hS
  refine lv_aload_n J.1 J.2.1 d_MD_step_335 rfl (lv_at hl 0 rfl) ?_
  refine lv_iload J.1 J.2.1 d_MD_step_336 (lv_at hl 4 rfl) ?_
  refine lv_iload_n J.1 J.2.1 d_MD_step_338 rfl (lv_at hl 2 rfl) ?_
  refine lv_bipush (v := 8) J.1 J.2.1 d_MD_step_339 (by decide) ?_
  refine lv_idiv J.1 J.2.1 d_MD_step_341 (by decide) ?_
  refine lv_bipush (v := 8) J.1 J.2.1 d_MD_step_342 (by decide) ?_
  refine lv_irem J.1 J.2.1 d_MD_step_344 (by decide) ?_
  refine lv_iload_n J.1 J.2.1 d_MD_step_345 rfl (lv_at hl 2 rfl) ?_
  refine lv_bipush (v := 8) J.1 J.2.1 d_MD_step_346 (by decide) ?_
  refine lv_irem J.1 J.2.1 d_MD_step_348 (by decide) ?_
  refine lv_iload J.1 J.2.1 d_MD_step_349 (lv_at hl 3 rfl) ?_
  refine lv_iload J.1 J.2.1 d_MD_step_351 (lv_at hl 5 rfl) ?_
  refine lv_iload_n J.1 J.2.1 d_MD_step_353 rfl (lv_at hl 1 rfl) ?_
  replace h := g_bd h
  obtain ⟨⟨zmemory_2, zregister_2, zmode_2, zpc_2, zbase_2, zbound_2, ztimer_2, zranOut_2, zhalted_2, zouts_2, zoutput_2, zwaits_2, ztyped_2, zdisk_2⟩, q_2, h⟩ := h
  try dsimp only at h
  have hq := ct_MD_does l E n0 n_base n_bound n_depth n_disk n_halted n_isThere n_labelAddress n_labelFrom n_labelSize n_made n_memory n_mode n_output n_outs n_pc n_ranOut n_register n_size n_steps n_tape n_timer n_typed n_waits n_wants H.size ztaped zat zend zline zlabels zfault zfaultLine zisTold zaddress zmissing zgood zvalue zvalueFrom zvalueSize zme zmemory zregister zmode (upd zpc zme.toNatClampNeg ((x1 + 2) - (x1 + 2) / 65536 * 65536)) zbase zbound ztimer zranOut zhalted zouts zoutput zwaits ztyped zdisk x5 ((x3 / 8) - (x3 / 8) / 8 * 8) (x3 - x3 / 8 * 8) x4 x6 x1 zmemory_2 zregister_2 zmode_2 zpc_2 zbase_2 zbound_2 ztimer_2 zranOut_2 zhalted_2 zouts_2 zoutput_2 zwaits_2 ztyped_2 zdisk_2 q_2
  have hr := jrunV (p := p) (e := e) (below := below) (R := ({ frames := 3, cells := 0, slots := 0, locals := 82 })) (cells := 0) (slots := 0) (As := [.int x5, .int ((x3 / 8) - (x3 / 8) / 8 * 8), .int (x3 - x3 / 8 * 8), .int x4, .int x6, .int x1]) (rest := []) J hJ hA hZ hP hD hS hq [0, 2, 3, 4, 5, 6, 7, 8, 9, 10, 12, 13, 14, 15, 16] rfl (by decide) gl_MD_276 gi_MD_does gsel_MD_does gini_MD gc_MD_does hd_MD_does ⟨rfl, rfl, Nat.le_of_ble_eq_true rfl, Nat.le_of_ble_eq_true rfl⟩ rfl rfl hl.1 rfl rfl (Nat.le_of_ble_eq_true rfl) d_MD_step_354 ⟨Nat.zero_le _, Nat.zero_le _⟩
  clear hq
  refine jk_v hr hA hP hD hS [0, 2, 3, 4, 5, 6, 7, 8, 9, 10, 12, 13, 14, 15, 16] [1, 11] (WR := [(n_size, .inl (E.2.1 0, 3, .inl zsize)), (n_steps, .inl (E.2.1 0, 3, .inl zsteps))]) rfl rfl (by decide) (by decide) [2, 0, 3, 4, 5, 6, 7, 8, 9, 10, 11, 1, 12, 13, 14, 15, 16] (WF := [(n0, .inr (6, [.ref n_tape, .int ztaped, .ref n_isThere, .ref n_size, .ref n_depth, .ref n_memory, .ref n_register, .ref n_mode, .ref n_pc, .ref n_base, .ref n_bound, .ref n_timer, .ref n_ranOut, .ref n_halted, .ref n_steps, .ref n_outs, .ref n_output, .ref n_waits, .ref n_typed, .ref n_disk, .ref n_wants, .int zat, .int zend, .int zline, .ref n_labelFrom, .ref n_labelSize, .ref n_labelAddress, .int zlabels, .int zfault, .int zfaultLine, .int zisTold, .int zaddress, .ref n_made, .int zmissing, .int zgood, .int zvalue, .int zvalueFrom, .int zvalueSize, .int zme])), (n_size, .inl (E.2.1 0, 3, .inl zsize)), (n_memory, .inl (E.2.1 0, 3072, .inl zmemory_2)), (n_register, .inl (E.2.1 0, 24, .inl zregister_2)), (n_mode, .inl (E.2.1 0, 3, .inl zmode_2)), (n_pc, .inl (E.2.1 0, 3, .inl zpc_2)), (n_base, .inl (E.2.1 0, 3, .inl zbase_2)), (n_bound, .inl (E.2.1 0, 3, .inl zbound_2)), (n_timer, .inl (E.2.1 0, 3, .inl ztimer_2)), (n_ranOut, .inl (E.2.1 3, 3, .inl zranOut_2)), (n_halted, .inl (E.2.1 3, 3, .inl zhalted_2)), (n_steps, .inl (E.2.1 0, 3, .inl zsteps)), (n_outs, .inl (E.2.1 0, 3, .inl zouts_2)), (n_output, .inl (E.2.1 0, 1500, .inl zoutput_2)), (n_waits, .inl (E.2.1 0, 3, .inl zwaits_2)), (n_typed, .inl (E.2.1 0, 300, .inl ztyped_2)), (n_disk, .inl (E.2.1 0, 384, .inl zdisk_2))]) rfl (by decide) ?_
  clear hP hD hS
  intro H locs hP hD hS
  clear hr
  refine lv_iload J.1 J.2.1 d_MD_step_357 (lv_at hl 6 rfl) ?_
  refine lv_if_ne (tgt := 363) J.1 J.2.1 d_MD_step_359 (by decide) (fun c_3 => ?_) (fun c_3 => ?_)
  · replace h := g_f c_3 h
    refine lv_aload_n J.1 J.2.1 d_MD_step_363 rfl (lv_at hl 0 rfl) ?_
    refine jg J hJ hP 0 rfl rfl i_MD 11 (by decide) gf_MD_50 rfl d_MD_step_364 ?_
    refine lv_aload_n J.1 J.2.1 d_MD_step_367 rfl (lv_at hl 0 rfl) ?_
    refine jg J hJ hP 0 rfl rfl i_MD 38 (by decide) gf_MD_261 rfl d_MD_step_368 ?_
    refine lv_dup2_11 J.1 J.2.1 d_MD_step_371 rfl rfl ?_
    replace h := g_ck h
    obtain ⟨k_4, h⟩ := h
    refine jai J hJ hP 8 rfl k_4 d_MD_step_372 ?_
    refine lv_iconst (v := 1) J.1 J.2.1 d_MD_step_373 (by decide) ?_
    refine lv_isub J.1 J.2.1 d_MD_step_374 ?_
    replace h := g_ck h
    obtain ⟨k_5, h⟩ := h
    refine jsi J hJ hP hD hS 8 rfl k_5 d_MD_step_375 (WS' := [(n0, .inr (6, [.ref n_tape, .int ztaped, .ref n_isThere, .ref n_size, .ref n_depth, .ref n_memory, .ref n_register, .ref n_mode, .ref n_pc, .ref n_base, .ref n_bound, .ref n_timer, .ref n_ranOut, .ref n_halted, .ref n_steps, .ref n_outs, .ref n_output, .ref n_waits, .ref n_typed, .ref n_disk, .ref n_wants, .int zat, .int zend, .int zline, .ref n_labelFrom, .ref n_labelSize, .ref n_labelAddress, .int zlabels, .int zfault, .int zfaultLine, .int zisTold, .int zaddress, .ref n_made, .int zmissing, .int zgood, .int zvalue, .int zvalueFrom, .int zvalueSize, .int zme])), (n_size, .inl (E.2.1 0, 3, .inl zsize)), (n_memory, .inl (E.2.1 0, 3072, .inl zmemory_2)), (n_register, .inl (E.2.1 0, 24, .inl zregister_2)), (n_mode, .inl (E.2.1 0, 3, .inl zmode_2)), (n_pc, .inl (E.2.1 0, 3, .inl zpc_2)), (n_base, .inl (E.2.1 0, 3, .inl zbase_2)), (n_bound, .inl (E.2.1 0, 3, .inl zbound_2)), (n_timer, .inl (E.2.1 0, 3, .inl (upd ztimer_2 zme.toNatClampNeg ((ztimer_2 zme.toNatClampNeg) - 1)))), (n_ranOut, .inl (E.2.1 3, 3, .inl zranOut_2)), (n_halted, .inl (E.2.1 3, 3, .inl zhalted_2)), (n_steps, .inl (E.2.1 0, 3, .inl zsteps)), (n_outs, .inl (E.2.1 0, 3, .inl zouts_2)), (n_output, .inl (E.2.1 0, 1500, .inl zoutput_2)), (n_waits, .inl (E.2.1 0, 3, .inl zwaits_2)), (n_typed, .inl (E.2.1 0, 300, .inl ztyped_2)), (n_disk, .inl (E.2.1 0, 384, .inl zdisk_2))]) rfl ?_
    clear hP hD hS
    intro H locs hP hD hS
    refine lv_aload_n J.1 J.2.1 d_MD_step_376 rfl (lv_at hl 0 rfl) ?_
    refine jg J hJ hP 0 rfl rfl i_MD 12 (by decide) gf_MD_53 rfl d_MD_step_377 ?_
    refine lv_aload_n J.1 J.2.1 d_MD_step_380 rfl (lv_at hl 0 rfl) ?_
    refine jg J hJ hP 0 rfl rfl i_MD 38 (by decide) gf_MD_261 rfl d_MD_step_381 ?_
    refine lv_aload_n J.1 J.2.1 d_MD_step_384 rfl (lv_at hl 0 rfl) ?_
    refine jg J hJ hP 0 rfl rfl i_MD 11 (by decide) gf_MD_50 rfl d_MD_step_385 ?_
    refine lv_aload_n J.1 J.2.1 d_MD_step_388 rfl (lv_at hl 0 rfl) ?_
    refine jg J hJ hP 0 rfl rfl i_MD 38 (by decide) gf_MD_261 rfl d_MD_step_389 ?_
    replace h := g_ck h
    obtain ⟨k_6, h⟩ := h
    refine jai J hJ hP 8 rfl k_6 d_MD_step_392 ?_
    refine lv_if_ne (tgt := 400) J.1 J.2.1 d_MD_step_393 (by decide) (fun c_7 => ?_) (fun c_7 => ?_)
    · replace h := g_f c_7 h
      refine lv_iconst (v := 0) J.1 J.2.1 d_MD_step_400 (by decide) ?_
      replace h := g_ck h
      obtain ⟨k_8, h⟩ := h
      refine va_zast J.1 J.2.1 hJ.1 hP hD hS 9 3 rfl rfl k_8 d_MD_step_401 ?_
      clear hP hD hS
      intro H locs hP hD hS
      have hP : va_P E.1 classes [(n0, .inr (6, [.ref n_tape, .int ztaped, .ref n_isThere, .ref n_size, .ref n_depth, .ref n_memory, .ref n_register, .ref n_mode, .ref n_pc, .ref n_base, .ref n_bound, .ref n_timer, .ref n_ranOut, .ref n_halted, .ref n_steps, .ref n_outs, .ref n_output, .ref n_waits, .ref n_typed, .ref n_disk, .ref n_wants, .int zat, .int zend, .int zline, .ref n_labelFrom, .ref n_labelSize, .ref n_labelAddress, .int zlabels, .int zfault, .int zfaultLine, .int zisTold, .int zaddress, .ref n_made, .int zmissing, .int zgood, .int zvalue, .int zvalueFrom, .int zvalueSize, .int zme])), (n_size, .inl (E.2.1 0, 3, .inl zsize)), (n_memory, .inl (E.2.1 0, 3072, .inl zmemory_2)), (n_register, .inl (E.2.1 0, 24, .inl zregister_2)), (n_mode, .inl (E.2.1 0, 3, .inl zmode_2)), (n_pc, .inl (E.2.1 0, 3, .inl zpc_2)), (n_base, .inl (E.2.1 0, 3, .inl zbase_2)), (n_bound, .inl (E.2.1 0, 3, .inl zbound_2)), (n_timer, .inl (E.2.1 0, 3, .inl (upd ztimer_2 zme.toNatClampNeg ((ztimer_2 zme.toNatClampNeg) - 1)))), (n_ranOut, .inl (E.2.1 3, 3, .inl (upd zranOut_2 zme.toNatClampNeg (vp_nar .boolean 0)))), (n_halted, .inl (E.2.1 3, 3, .inl zhalted_2)), (n_steps, .inl (E.2.1 0, 3, .inl zsteps)), (n_outs, .inl (E.2.1 0, 3, .inl zouts_2)), (n_output, .inl (E.2.1 0, 1500, .inl zoutput_2)), (n_waits, .inl (E.2.1 0, 3, .inl zwaits_2)), (n_typed, .inl (E.2.1 0, 300, .inl ztyped_2)), (n_disk, .inl (E.2.1 0, 384, .inl zdisk_2))] H := hP
      have hD : va_D A [(n0, .inr (6, [.ref n_tape, .int ztaped, .ref n_isThere, .ref n_size, .ref n_depth, .ref n_memory, .ref n_register, .ref n_mode, .ref n_pc, .ref n_base, .ref n_bound, .ref n_timer, .ref n_ranOut, .ref n_halted, .ref n_steps, .ref n_outs, .ref n_output, .ref n_waits, .ref n_typed, .ref n_disk, .ref n_wants, .int zat, .int zend, .int zline, .ref n_labelFrom, .ref n_labelSize, .ref n_labelAddress, .int zlabels, .int zfault, .int zfaultLine, .int zisTold, .int zaddress, .ref n_made, .int zmissing, .int zgood, .int zvalue, .int zvalueFrom, .int zvalueSize, .int zme])), (n_size, .inl (E.2.1 0, 3, .inl zsize)), (n_memory, .inl (E.2.1 0, 3072, .inl zmemory_2)), (n_register, .inl (E.2.1 0, 24, .inl zregister_2)), (n_mode, .inl (E.2.1 0, 3, .inl zmode_2)), (n_pc, .inl (E.2.1 0, 3, .inl zpc_2)), (n_base, .inl (E.2.1 0, 3, .inl zbase_2)), (n_bound, .inl (E.2.1 0, 3, .inl zbound_2)), (n_timer, .inl (E.2.1 0, 3, .inl (upd ztimer_2 zme.toNatClampNeg ((ztimer_2 zme.toNatClampNeg) - 1)))), (n_ranOut, .inl (E.2.1 3, 3, .inl (upd zranOut_2 zme.toNatClampNeg (vp_nar .boolean 0)))), (n_halted, .inl (E.2.1 3, 3, .inl zhalted_2)), (n_steps, .inl (E.2.1 0, 3, .inl zsteps)), (n_outs, .inl (E.2.1 0, 3, .inl zouts_2)), (n_output, .inl (E.2.1 0, 1500, .inl zoutput_2)), (n_waits, .inl (E.2.1 0, 3, .inl zwaits_2)), (n_typed, .inl (E.2.1 0, 300, .inl ztyped_2)), (n_disk, .inl (E.2.1 0, 384, .inl zdisk_2))] := hD
      have h := Option.some.inj h
      have e_0 := (Prod.mk.inj h).1
      have h := (Prod.mk.inj h).2
      have e_1 := (Prod.mk.inj h).1
      have h := (Prod.mk.inj h).2
      have e_2 := (Prod.mk.inj h).1
      have h := (Prod.mk.inj h).2
      have e_3 := (Prod.mk.inj h).1
      have h := (Prod.mk.inj h).2
      have e_4 := (Prod.mk.inj h).1
      have h := (Prod.mk.inj h).2
      have e_5 := (Prod.mk.inj h).1
      have h := (Prod.mk.inj h).2
      have e_6 := (Prod.mk.inj h).1
      have h := (Prod.mk.inj h).2
      have e_7 := (Prod.mk.inj h).1
      have h := (Prod.mk.inj h).2
      have e_8 := (Prod.mk.inj h).1
      have h := (Prod.mk.inj h).2
      have e_9 := (Prod.mk.inj h).1
      have h := (Prod.mk.inj h).2
      have e_10 := (Prod.mk.inj h).1
      have h := (Prod.mk.inj h).2
      have e_11 := (Prod.mk.inj h).1
      have h := (Prod.mk.inj h).2
      have e_12 := (Prod.mk.inj h).1
      have h := (Prod.mk.inj h).2
      have e_13 := (Prod.mk.inj h).1
      have h := (Prod.mk.inj h).2
      rw [← e_0, ← e_1, ← e_2, ← e_3, ← e_4, ← e_5, ← e_6, ← e_7, ← e_8, ← e_9, ← e_10, ← e_11, ← e_12, ← e_13, ← h]
      exact jr_v J hS hP hD d_MD_step_402
    · replace h := g_t c_7 h
      refine lv_iconst (v := 1) J.1 J.2.1 d_MD_step_396 (by decide) ?_
      refine lv_goto (tgt := 401) J.1 J.2.1 d_MD_step_397 (by decide) ?_
      replace h := g_ck h
      obtain ⟨k_9, h⟩ := h
      refine va_zast J.1 J.2.1 hJ.1 hP hD hS 9 3 rfl rfl k_9 d_MD_step_401 ?_
      clear hP hD hS
      intro H locs hP hD hS
      have hP : va_P E.1 classes [(n0, .inr (6, [.ref n_tape, .int ztaped, .ref n_isThere, .ref n_size, .ref n_depth, .ref n_memory, .ref n_register, .ref n_mode, .ref n_pc, .ref n_base, .ref n_bound, .ref n_timer, .ref n_ranOut, .ref n_halted, .ref n_steps, .ref n_outs, .ref n_output, .ref n_waits, .ref n_typed, .ref n_disk, .ref n_wants, .int zat, .int zend, .int zline, .ref n_labelFrom, .ref n_labelSize, .ref n_labelAddress, .int zlabels, .int zfault, .int zfaultLine, .int zisTold, .int zaddress, .ref n_made, .int zmissing, .int zgood, .int zvalue, .int zvalueFrom, .int zvalueSize, .int zme])), (n_size, .inl (E.2.1 0, 3, .inl zsize)), (n_memory, .inl (E.2.1 0, 3072, .inl zmemory_2)), (n_register, .inl (E.2.1 0, 24, .inl zregister_2)), (n_mode, .inl (E.2.1 0, 3, .inl zmode_2)), (n_pc, .inl (E.2.1 0, 3, .inl zpc_2)), (n_base, .inl (E.2.1 0, 3, .inl zbase_2)), (n_bound, .inl (E.2.1 0, 3, .inl zbound_2)), (n_timer, .inl (E.2.1 0, 3, .inl (upd ztimer_2 zme.toNatClampNeg ((ztimer_2 zme.toNatClampNeg) - 1)))), (n_ranOut, .inl (E.2.1 3, 3, .inl (upd zranOut_2 zme.toNatClampNeg (vp_nar .boolean 1)))), (n_halted, .inl (E.2.1 3, 3, .inl zhalted_2)), (n_steps, .inl (E.2.1 0, 3, .inl zsteps)), (n_outs, .inl (E.2.1 0, 3, .inl zouts_2)), (n_output, .inl (E.2.1 0, 1500, .inl zoutput_2)), (n_waits, .inl (E.2.1 0, 3, .inl zwaits_2)), (n_typed, .inl (E.2.1 0, 300, .inl ztyped_2)), (n_disk, .inl (E.2.1 0, 384, .inl zdisk_2))] H := hP
      have hD : va_D A [(n0, .inr (6, [.ref n_tape, .int ztaped, .ref n_isThere, .ref n_size, .ref n_depth, .ref n_memory, .ref n_register, .ref n_mode, .ref n_pc, .ref n_base, .ref n_bound, .ref n_timer, .ref n_ranOut, .ref n_halted, .ref n_steps, .ref n_outs, .ref n_output, .ref n_waits, .ref n_typed, .ref n_disk, .ref n_wants, .int zat, .int zend, .int zline, .ref n_labelFrom, .ref n_labelSize, .ref n_labelAddress, .int zlabels, .int zfault, .int zfaultLine, .int zisTold, .int zaddress, .ref n_made, .int zmissing, .int zgood, .int zvalue, .int zvalueFrom, .int zvalueSize, .int zme])), (n_size, .inl (E.2.1 0, 3, .inl zsize)), (n_memory, .inl (E.2.1 0, 3072, .inl zmemory_2)), (n_register, .inl (E.2.1 0, 24, .inl zregister_2)), (n_mode, .inl (E.2.1 0, 3, .inl zmode_2)), (n_pc, .inl (E.2.1 0, 3, .inl zpc_2)), (n_base, .inl (E.2.1 0, 3, .inl zbase_2)), (n_bound, .inl (E.2.1 0, 3, .inl zbound_2)), (n_timer, .inl (E.2.1 0, 3, .inl (upd ztimer_2 zme.toNatClampNeg ((ztimer_2 zme.toNatClampNeg) - 1)))), (n_ranOut, .inl (E.2.1 3, 3, .inl (upd zranOut_2 zme.toNatClampNeg (vp_nar .boolean 1)))), (n_halted, .inl (E.2.1 3, 3, .inl zhalted_2)), (n_steps, .inl (E.2.1 0, 3, .inl zsteps)), (n_outs, .inl (E.2.1 0, 3, .inl zouts_2)), (n_output, .inl (E.2.1 0, 1500, .inl zoutput_2)), (n_waits, .inl (E.2.1 0, 3, .inl zwaits_2)), (n_typed, .inl (E.2.1 0, 300, .inl ztyped_2)), (n_disk, .inl (E.2.1 0, 384, .inl zdisk_2))] := hD
      have h := Option.some.inj h
      have e_0 := (Prod.mk.inj h).1
      have h := (Prod.mk.inj h).2
      have e_1 := (Prod.mk.inj h).1
      have h := (Prod.mk.inj h).2
      have e_2 := (Prod.mk.inj h).1
      have h := (Prod.mk.inj h).2
      have e_3 := (Prod.mk.inj h).1
      have h := (Prod.mk.inj h).2
      have e_4 := (Prod.mk.inj h).1
      have h := (Prod.mk.inj h).2
      have e_5 := (Prod.mk.inj h).1
      have h := (Prod.mk.inj h).2
      have e_6 := (Prod.mk.inj h).1
      have h := (Prod.mk.inj h).2
      have e_7 := (Prod.mk.inj h).1
      have h := (Prod.mk.inj h).2
      have e_8 := (Prod.mk.inj h).1
      have h := (Prod.mk.inj h).2
      have e_9 := (Prod.mk.inj h).1
      have h := (Prod.mk.inj h).2
      have e_10 := (Prod.mk.inj h).1
      have h := (Prod.mk.inj h).2
      have e_11 := (Prod.mk.inj h).1
      have h := (Prod.mk.inj h).2
      have e_12 := (Prod.mk.inj h).1
      have h := (Prod.mk.inj h).2
      have e_13 := (Prod.mk.inj h).1
      have h := (Prod.mk.inj h).2
      rw [← e_0, ← e_1, ← e_2, ← e_3, ← e_4, ← e_5, ← e_6, ← e_7, ← e_8, ← e_9, ← e_10, ← e_11, ← e_12, ← e_13, ← h]
      exact jr_v J hS hP hD d_MD_step_402
  · replace h := g_t c_3 h
    have h := Option.some.inj h
    have e_0 := (Prod.mk.inj h).1
    have h := (Prod.mk.inj h).2
    have e_1 := (Prod.mk.inj h).1
    have h := (Prod.mk.inj h).2
    have e_2 := (Prod.mk.inj h).1
    have h := (Prod.mk.inj h).2
    have e_3 := (Prod.mk.inj h).1
    have h := (Prod.mk.inj h).2
    have e_4 := (Prod.mk.inj h).1
    have h := (Prod.mk.inj h).2
    have e_5 := (Prod.mk.inj h).1
    have h := (Prod.mk.inj h).2
    have e_6 := (Prod.mk.inj h).1
    have h := (Prod.mk.inj h).2
    have e_7 := (Prod.mk.inj h).1
    have h := (Prod.mk.inj h).2
    have e_8 := (Prod.mk.inj h).1
    have h := (Prod.mk.inj h).2
    have e_9 := (Prod.mk.inj h).1
    have h := (Prod.mk.inj h).2
    have e_10 := (Prod.mk.inj h).1
    have h := (Prod.mk.inj h).2
    have e_11 := (Prod.mk.inj h).1
    have h := (Prod.mk.inj h).2
    have e_12 := (Prod.mk.inj h).1
    have h := (Prod.mk.inj h).2
    have e_13 := (Prod.mk.inj h).1
    have h := (Prod.mk.inj h).2
    rw [← e_0, ← e_1, ← e_2, ← e_3, ← e_4, ← e_5, ← e_6, ← e_7, ← e_8, ← e_9, ← e_10, ← e_11, ← e_12, ← e_13, ← h]
    exact jr_v J hS hP hD d_MD_step_362
set_option maxHeartbeats 4000000 in
set_option maxRecDepth 100000 in
theorem kb_MD_step_317 {p : Program} {l : Launch} {e : Env} {s : State} {m : MethodId} {below : List Frame} {meth : Method} {c : Code} {A : Nat → Prop} {E : jz_E} {n0 n_base n_bound n_depth n_disk n_halted n_isThere n_labelAddress n_labelFrom n_labelSize n_made n_memory n_mode n_output n_outs n_pc n_ranOut n_register n_size n_steps n_tape n_timer n_typed n_waits n_wants : Nat} {o_zmemory : Nat → Int32} {o_zregister : Nat → Int32} {o_zmode : Nat → Int32} {o_zpc : Nat → Int32} {o_zbase : Nat → Int32} {o_zbound : Nat → Int32} {o_ztimer : Nat → Int32} {o_zranOut : Nat → Int32} {o_zhalted : Nat → Int32} {o_zsteps : Nat → Int32} {o_zouts : Nat → Int32} {o_zoutput : Nat → Int32} {o_zwaits : Nat → Int32} {o_ztyped : Nat → Int32} {o_zdisk : Nat → Int32} (J : JC p s m ([.ref n0] : List Value).toArray meth c c_MD_step 9 none y_MD_step.cls) (hJ : jE E s) (hA : ∀ q : Nat, s.heap.size ≤ q → A q) (hZ : jz_ok E A s s.heap) : ∀ (ztaped : Int32) (zat : Int32) (zend : Int32) (zline : Int32) (zlabels : Int32) (zfault : Int32) (zfaultLine : Int32) (zisTold : Int32) (zaddress : Int32) (zmissing : Int32) (zgood : Int32) (zvalue : Int32) (zvalueFrom : Int32) (zvalueSize : Int32) (zme : Int32) (zsize : Nat → Int32) (zmemory : Nat → Int32) (zregister : Nat → Int32) (zmode : Nat → Int32) (zpc : Nat → Int32) (zbase : Nat → Int32) (zbound : Nat → Int32) (ztimer : Nat → Int32) (zranOut : Nat → Int32) (zhalted : Nat → Int32) (zsteps : Nat → Int32) (zouts : Nat → Int32) (zoutput : Nat → Int32) (zwaits : Nat → Int32) (ztyped : Nat → Int32) (zdisk : Nat → Int32) (x1 : Int32) (x3 : Int32) (x4 : Int32) (x5 : Int32) (x6 : Int32) (H : Heap) (locs : List Loc) (ls : Array Slot), b_MD_step_317 zme zmemory zregister zmode zpc zbase zbound ztimer zranOut zhalted zsteps zouts zoutput zwaits ztyped zdisk x1 x3 x4 x5 x6 = some (o_zmemory, o_zregister, o_zmode, o_zpc, o_zbase, o_zbound, o_ztimer, o_zranOut, o_zhalted, o_zsteps, o_zouts, o_zoutput, o_zwaits, o_ztyped, o_zdisk) → va_P E.1 classes [(n0, .inr (6, [.ref n_tape, .int ztaped, .ref n_isThere, .ref n_size, .ref n_depth, .ref n_memory, .ref n_register, .ref n_mode, .ref n_pc, .ref n_base, .ref n_bound, .ref n_timer, .ref n_ranOut, .ref n_halted, .ref n_steps, .ref n_outs, .ref n_output, .ref n_waits, .ref n_typed, .ref n_disk, .ref n_wants, .int zat, .int zend, .int zline, .ref n_labelFrom, .ref n_labelSize, .ref n_labelAddress, .int zlabels, .int zfault, .int zfaultLine, .int zisTold, .int zaddress, .ref n_made, .int zmissing, .int zgood, .int zvalue, .int zvalueFrom, .int zvalueSize, .int zme])), (n_size, .inl (E.2.1 0, 3, .inl zsize)), (n_memory, .inl (E.2.1 0, 3072, .inl zmemory)), (n_register, .inl (E.2.1 0, 24, .inl zregister)), (n_mode, .inl (E.2.1 0, 3, .inl zmode)), (n_pc, .inl (E.2.1 0, 3, .inl zpc)), (n_base, .inl (E.2.1 0, 3, .inl zbase)), (n_bound, .inl (E.2.1 0, 3, .inl zbound)), (n_timer, .inl (E.2.1 0, 3, .inl ztimer)), (n_ranOut, .inl (E.2.1 3, 3, .inl zranOut)), (n_halted, .inl (E.2.1 3, 3, .inl zhalted)), (n_steps, .inl (E.2.1 0, 3, .inl zsteps)), (n_outs, .inl (E.2.1 0, 3, .inl zouts)), (n_output, .inl (E.2.1 0, 1500, .inl zoutput)), (n_waits, .inl (E.2.1 0, 3, .inl zwaits)), (n_typed, .inl (E.2.1 0, 300, .inl ztyped)), (n_disk, .inl (E.2.1 0, 384, .inl zdisk))] H → va_D A [(n0, .inr (6, [.ref n_tape, .int ztaped, .ref n_isThere, .ref n_size, .ref n_depth, .ref n_memory, .ref n_register, .ref n_mode, .ref n_pc, .ref n_base, .ref n_bound, .ref n_timer, .ref n_ranOut, .ref n_halted, .ref n_steps, .ref n_outs, .ref n_output, .ref n_waits, .ref n_typed, .ref n_disk, .ref n_wants, .int zat, .int zend, .int zline, .ref n_labelFrom, .ref n_labelSize, .ref n_labelAddress, .int zlabels, .int zfault, .int zfaultLine, .int zisTold, .int zaddress, .ref n_made, .int zmissing, .int zgood, .int zvalue, .int zvalueFrom, .int zvalueSize, .int zme])), (n_size, .inl (E.2.1 0, 3, .inl zsize)), (n_memory, .inl (E.2.1 0, 3072, .inl zmemory)), (n_register, .inl (E.2.1 0, 24, .inl zregister)), (n_mode, .inl (E.2.1 0, 3, .inl zmode)), (n_pc, .inl (E.2.1 0, 3, .inl zpc)), (n_base, .inl (E.2.1 0, 3, .inl zbase)), (n_bound, .inl (E.2.1 0, 3, .inl zbound)), (n_timer, .inl (E.2.1 0, 3, .inl ztimer)), (n_ranOut, .inl (E.2.1 3, 3, .inl zranOut)), (n_halted, .inl (E.2.1 3, 3, .inl zhalted)), (n_steps, .inl (E.2.1 0, 3, .inl zsteps)), (n_outs, .inl (E.2.1 0, 3, .inl zouts)), (n_output, .inl (E.2.1 0, 1500, .inl zoutput)), (n_waits, .inl (E.2.1 0, 3, .inl zwaits)), (n_typed, .inl (E.2.1 0, 300, .inl ztyped)), (n_disk, .inl (E.2.1 0, 384, .inl zdisk))] → va_S A s.heap H locs → lv_has ls 9 [(0, .ref n0), (1, .int x1), (3, .int x3), (4, .int x4), (5, .int x5), (6, .int x6)] → W p l e ({ frames := 3, cells := 0, slots := 0, locals := 82 }) s m ([.ref n0] : List Value).toArray below meth c H locs 0 0 (MQ below (va_Qv (fun (u : va_W) => u = [(n0, .inr (6, [.ref n_tape, .int ztaped, .ref n_isThere, .ref n_size, .ref n_depth, .ref n_memory, .ref n_register, .ref n_mode, .ref n_pc, .ref n_base, .ref n_bound, .ref n_timer, .ref n_ranOut, .ref n_halted, .ref n_steps, .ref n_outs, .ref n_output, .ref n_waits, .ref n_typed, .ref n_disk, .ref n_wants, .int zat, .int zend, .int zline, .ref n_labelFrom, .ref n_labelSize, .ref n_labelAddress, .int zlabels, .int zfault, .int zfaultLine, .int zisTold, .int zaddress, .ref n_made, .int zmissing, .int zgood, .int zvalue, .int zvalueFrom, .int zvalueSize, .int zme])), (n_size, .inl (E.2.1 0, 3, .inl zsize)), (n_memory, .inl (E.2.1 0, 3072, .inl o_zmemory)), (n_register, .inl (E.2.1 0, 24, .inl o_zregister)), (n_mode, .inl (E.2.1 0, 3, .inl o_zmode)), (n_pc, .inl (E.2.1 0, 3, .inl o_zpc)), (n_base, .inl (E.2.1 0, 3, .inl o_zbase)), (n_bound, .inl (E.2.1 0, 3, .inl o_zbound)), (n_timer, .inl (E.2.1 0, 3, .inl o_ztimer)), (n_ranOut, .inl (E.2.1 3, 3, .inl o_zranOut)), (n_halted, .inl (E.2.1 3, 3, .inl o_zhalted)), (n_steps, .inl (E.2.1 0, 3, .inl o_zsteps)), (n_outs, .inl (E.2.1 0, 3, .inl o_zouts)), (n_output, .inl (E.2.1 0, 1500, .inl o_zoutput)), (n_waits, .inl (E.2.1 0, 3, .inl o_zwaits)), (n_typed, .inl (E.2.1 0, 300, .inl o_ztyped)), (n_disk, .inl (E.2.1 0, 384, .inl o_zdisk))]) (BW E A) A) ([.ref n0] : List Value).toArray s 0 0 A) (F0 m 317 ls []) := by
  intro ztaped zat zend zline zlabels zfault zfaultLine zisTold zaddress zmissing zgood zvalue zvalueFrom zvalueSize zme zsize zmemory zregister zmode zpc zbase zbound ztimer zranOut zhalted zsteps zouts zoutput zwaits ztyped zdisk x1 x3 x4 x5 x6 H locs ls h hP hD hS hl
  rw [b_MD_step_317] at h
  refine lv_iconst (v := 0) J.1 J.2.1 d_MD_step_317 (by decide) ?_
  refine lv_istore (lv' := [(8, .int 0), (0, .ref n0), (1, .int x1), (3, .int x3), (4, .int x4), (5, .int x5), (6, .int x6)]) J.1 J.2.1 d_MD_step_318 hl (by decide) rfl ?_
  clear hl
  intro ls hl
  exact kb_MD_step_320 J hJ hA hZ _ _ _ _ _ _ _ _ _ _ _ _ _ _ _ _ _ _ _ _ _ _ _ _ _ _ _ _ _ _ _ _ _ _ _ _ _ _ _ _ h hP hD hS (lv_sub hl [1, 2, 3, 4, 5, 6, 0] rfl)
set_option maxHeartbeats 4000000 in
set_option maxRecDepth 100000 in
theorem kb_MD_step_246 {p : Program} {l : Launch} {e : Env} {s : State} {m : MethodId} {below : List Frame} {meth : Method} {c : Code} {A : Nat → Prop} {E : jz_E} {n0 n_base n_bound n_depth n_disk n_halted n_isThere n_labelAddress n_labelFrom n_labelSize n_made n_memory n_mode n_output n_outs n_pc n_ranOut n_register n_size n_steps n_tape n_timer n_typed n_waits n_wants : Nat} {o_zmemory : Nat → Int32} {o_zregister : Nat → Int32} {o_zmode : Nat → Int32} {o_zpc : Nat → Int32} {o_zbase : Nat → Int32} {o_zbound : Nat → Int32} {o_ztimer : Nat → Int32} {o_zranOut : Nat → Int32} {o_zhalted : Nat → Int32} {o_zsteps : Nat → Int32} {o_zouts : Nat → Int32} {o_zoutput : Nat → Int32} {o_zwaits : Nat → Int32} {o_ztyped : Nat → Int32} {o_zdisk : Nat → Int32} (J : JC p s m ([.ref n0] : List Value).toArray meth c c_MD_step 9 none y_MD_step.cls) (hJ : jE E s) (hA : ∀ q : Nat, s.heap.size ≤ q → A q) (hZ : jz_ok E A s s.heap) : ∀ (ztaped : Int32) (zat : Int32) (zend : Int32) (zline : Int32) (zlabels : Int32) (zfault : Int32) (zfaultLine : Int32) (zisTold : Int32) (zaddress : Int32) (zmissing : Int32) (zgood : Int32) (zvalue : Int32) (zvalueFrom : Int32) (zvalueSize : Int32) (zme : Int32) (zsize : Nat → Int32) (zmemory : Nat → Int32) (zregister : Nat → Int32) (zmode : Nat → Int32) (zpc : Nat → Int32) (zbase : Nat → Int32) (zbound : Nat → Int32) (ztimer : Nat → Int32) (zranOut : Nat → Int32) (zhalted : Nat → Int32) (zsteps : Nat → Int32) (zouts : Nat → Int32) (zoutput : Nat → Int32) (zwaits : Nat → Int32) (ztyped : Nat → Int32) (zdisk : Nat → Int32) (x1 : Int32) (x3 : Int32) (x4 : Int32) (x5 : Int32) (x6 : Int32) (x7 : Int32) (H : Heap) (locs : List Loc) (ls : Array Slot), b_MD_step_246 zme zsize zmemory zregister zmode zpc zbase zbound ztimer zranOut zhalted zsteps zouts zoutput zwaits ztyped zdisk x1 x3 x4 x5 x6 x7 = some (o_zmemory, o_zregister, o_zmode, o_zpc, o_zbase, o_zbound, o_ztimer, o_zranOut, o_zhalted, o_zsteps, o_zouts, o_zoutput, o_zwaits, o_ztyped, o_zdisk) → va_P E.1 classes [(n0, .inr (6, [.ref n_tape, .int ztaped, .ref n_isThere, .ref n_size, .ref n_depth, .ref n_memory, .ref n_register, .ref n_mode, .ref n_pc, .ref n_base, .ref n_bound, .ref n_timer, .ref n_ranOut, .ref n_halted, .ref n_steps, .ref n_outs, .ref n_output, .ref n_waits, .ref n_typed, .ref n_disk, .ref n_wants, .int zat, .int zend, .int zline, .ref n_labelFrom, .ref n_labelSize, .ref n_labelAddress, .int zlabels, .int zfault, .int zfaultLine, .int zisTold, .int zaddress, .ref n_made, .int zmissing, .int zgood, .int zvalue, .int zvalueFrom, .int zvalueSize, .int zme])), (n_size, .inl (E.2.1 0, 3, .inl zsize)), (n_memory, .inl (E.2.1 0, 3072, .inl zmemory)), (n_register, .inl (E.2.1 0, 24, .inl zregister)), (n_mode, .inl (E.2.1 0, 3, .inl zmode)), (n_pc, .inl (E.2.1 0, 3, .inl zpc)), (n_base, .inl (E.2.1 0, 3, .inl zbase)), (n_bound, .inl (E.2.1 0, 3, .inl zbound)), (n_timer, .inl (E.2.1 0, 3, .inl ztimer)), (n_ranOut, .inl (E.2.1 3, 3, .inl zranOut)), (n_halted, .inl (E.2.1 3, 3, .inl zhalted)), (n_steps, .inl (E.2.1 0, 3, .inl zsteps)), (n_outs, .inl (E.2.1 0, 3, .inl zouts)), (n_output, .inl (E.2.1 0, 1500, .inl zoutput)), (n_waits, .inl (E.2.1 0, 3, .inl zwaits)), (n_typed, .inl (E.2.1 0, 300, .inl ztyped)), (n_disk, .inl (E.2.1 0, 384, .inl zdisk))] H → va_D A [(n0, .inr (6, [.ref n_tape, .int ztaped, .ref n_isThere, .ref n_size, .ref n_depth, .ref n_memory, .ref n_register, .ref n_mode, .ref n_pc, .ref n_base, .ref n_bound, .ref n_timer, .ref n_ranOut, .ref n_halted, .ref n_steps, .ref n_outs, .ref n_output, .ref n_waits, .ref n_typed, .ref n_disk, .ref n_wants, .int zat, .int zend, .int zline, .ref n_labelFrom, .ref n_labelSize, .ref n_labelAddress, .int zlabels, .int zfault, .int zfaultLine, .int zisTold, .int zaddress, .ref n_made, .int zmissing, .int zgood, .int zvalue, .int zvalueFrom, .int zvalueSize, .int zme])), (n_size, .inl (E.2.1 0, 3, .inl zsize)), (n_memory, .inl (E.2.1 0, 3072, .inl zmemory)), (n_register, .inl (E.2.1 0, 24, .inl zregister)), (n_mode, .inl (E.2.1 0, 3, .inl zmode)), (n_pc, .inl (E.2.1 0, 3, .inl zpc)), (n_base, .inl (E.2.1 0, 3, .inl zbase)), (n_bound, .inl (E.2.1 0, 3, .inl zbound)), (n_timer, .inl (E.2.1 0, 3, .inl ztimer)), (n_ranOut, .inl (E.2.1 3, 3, .inl zranOut)), (n_halted, .inl (E.2.1 3, 3, .inl zhalted)), (n_steps, .inl (E.2.1 0, 3, .inl zsteps)), (n_outs, .inl (E.2.1 0, 3, .inl zouts)), (n_output, .inl (E.2.1 0, 1500, .inl zoutput)), (n_waits, .inl (E.2.1 0, 3, .inl zwaits)), (n_typed, .inl (E.2.1 0, 300, .inl ztyped)), (n_disk, .inl (E.2.1 0, 384, .inl zdisk))] → va_S A s.heap H locs → lv_has ls 9 [(0, .ref n0), (1, .int x1), (3, .int x3), (4, .int x4), (5, .int x5), (6, .int x6), (7, .int x7)] → W p l e ({ frames := 3, cells := 0, slots := 0, locals := 82 }) s m ([.ref n0] : List Value).toArray below meth c H locs 0 0 (MQ below (va_Qv (fun (u : va_W) => u = [(n0, .inr (6, [.ref n_tape, .int ztaped, .ref n_isThere, .ref n_size, .ref n_depth, .ref n_memory, .ref n_register, .ref n_mode, .ref n_pc, .ref n_base, .ref n_bound, .ref n_timer, .ref n_ranOut, .ref n_halted, .ref n_steps, .ref n_outs, .ref n_output, .ref n_waits, .ref n_typed, .ref n_disk, .ref n_wants, .int zat, .int zend, .int zline, .ref n_labelFrom, .ref n_labelSize, .ref n_labelAddress, .int zlabels, .int zfault, .int zfaultLine, .int zisTold, .int zaddress, .ref n_made, .int zmissing, .int zgood, .int zvalue, .int zvalueFrom, .int zvalueSize, .int zme])), (n_size, .inl (E.2.1 0, 3, .inl zsize)), (n_memory, .inl (E.2.1 0, 3072, .inl o_zmemory)), (n_register, .inl (E.2.1 0, 24, .inl o_zregister)), (n_mode, .inl (E.2.1 0, 3, .inl o_zmode)), (n_pc, .inl (E.2.1 0, 3, .inl o_zpc)), (n_base, .inl (E.2.1 0, 3, .inl o_zbase)), (n_bound, .inl (E.2.1 0, 3, .inl o_zbound)), (n_timer, .inl (E.2.1 0, 3, .inl o_ztimer)), (n_ranOut, .inl (E.2.1 3, 3, .inl o_zranOut)), (n_halted, .inl (E.2.1 3, 3, .inl o_zhalted)), (n_steps, .inl (E.2.1 0, 3, .inl o_zsteps)), (n_outs, .inl (E.2.1 0, 3, .inl o_zouts)), (n_output, .inl (E.2.1 0, 1500, .inl o_zoutput)), (n_waits, .inl (E.2.1 0, 3, .inl o_zwaits)), (n_typed, .inl (E.2.1 0, 300, .inl o_ztyped)), (n_disk, .inl (E.2.1 0, 384, .inl o_zdisk))]) (BW E A) A) ([.ref n0] : List Value).toArray s 0 0 A) (F0 m 246 ls []) := by
  intro ztaped zat zend zline zlabels zfault zfaultLine zisTold zaddress zmissing zgood zvalue zvalueFrom zvalueSize zme zsize zmemory zregister zmode zpc zbase zbound ztimer zranOut zhalted zsteps zouts zoutput zwaits ztyped zdisk x1 x3 x4 x5 x6 x7 H locs ls h hP hD hS hl
  rw [b_MD_step_246] at h
  refine lv_aload_n J.1 J.2.1 d_MD_step_246 rfl (lv_at hl 0 rfl) ?_
  refine lv_iload J.1 J.2.1 d_MD_step_247 (lv_at hl 5 rfl) ?_
  refine lv_iload J.1 J.2.1 d_MD_step_249 (lv_at hl 6 rfl) ?_
  replace h := g_bd h
  obtain ⟨r_10, q_10, h⟩ := h
  have hq := ct_MD_bad l E n0 n_base n_bound n_depth n_disk n_halted n_isThere n_labelAddress n_labelFrom n_labelSize n_made n_memory n_mode n_output n_outs n_pc n_ranOut n_register n_size n_steps n_tape n_timer n_typed n_waits n_wants H.size ztaped zat zend zline zlabels zfault zfaultLine zisTold zaddress zmissing zgood zvalue zvalueFrom zvalueSize zme zsize zbase zbound x6 x7 r_10 q_10
  have hr := jrunV (p := p) (e := e) (below := below) (R := ({ frames := 3, cells := 0, slots := 0, locals := 82 })) (cells := 0) (slots := 0) (As := [.int x6, .int x7]) (rest := []) J hJ hA hZ hP hD hS hq [0, 1, 6, 7] rfl (by decide) gl_MD_270 gi_MD_bad gsel_MD_bad gini_MD gc_MD_bad hd_MD_bad ⟨rfl, rfl, Nat.le_of_ble_eq_true rfl, Nat.le_of_ble_eq_true rfl⟩ rfl rfl hl.1 rfl rfl (Nat.le_of_ble_eq_true rfl) d_MD_step_251 ⟨Nat.zero_le _, Nat.zero_le _⟩
  clear hq
  refine jk_i hr hA hP hD hS [0, 1, 6, 7] [2, 3, 4, 5, 8, 9, 10, 11, 12, 13, 14, 15, 16] (WR := [(n_memory, .inl (E.2.1 0, 3072, .inl zmemory)), (n_register, .inl (E.2.1 0, 24, .inl zregister)), (n_mode, .inl (E.2.1 0, 3, .inl zmode)), (n_pc, .inl (E.2.1 0, 3, .inl zpc)), (n_timer, .inl (E.2.1 0, 3, .inl ztimer)), (n_ranOut, .inl (E.2.1 3, 3, .inl zranOut)), (n_halted, .inl (E.2.1 3, 3, .inl zhalted)), (n_steps, .inl (E.2.1 0, 3, .inl zsteps)), (n_outs, .inl (E.2.1 0, 3, .inl zouts)), (n_output, .inl (E.2.1 0, 1500, .inl zoutput)), (n_waits, .inl (E.2.1 0, 3, .inl zwaits)), (n_typed, .inl (E.2.1 0, 300, .inl ztyped)), (n_disk, .inl (E.2.1 0, 384, .inl zdisk))]) rfl rfl (by decide) (by decide) [13, 14, 0, 1, 2, 3, 15, 16, 4, 5, 6, 7, 8, 9, 10, 11, 12] (WF := [(n0, .inr (6, [.ref n_tape, .int ztaped, .ref n_isThere, .ref n_size, .ref n_depth, .ref n_memory, .ref n_register, .ref n_mode, .ref n_pc, .ref n_base, .ref n_bound, .ref n_timer, .ref n_ranOut, .ref n_halted, .ref n_steps, .ref n_outs, .ref n_output, .ref n_waits, .ref n_typed, .ref n_disk, .ref n_wants, .int zat, .int zend, .int zline, .ref n_labelFrom, .ref n_labelSize, .ref n_labelAddress, .int zlabels, .int zfault, .int zfaultLine, .int zisTold, .int zaddress, .ref n_made, .int zmissing, .int zgood, .int zvalue, .int zvalueFrom, .int zvalueSize, .int zme])), (n_size, .inl (E.2.1 0, 3, .inl zsize)), (n_memory, .inl (E.2.1 0, 3072, .inl zmemory)), (n_register, .inl (E.2.1 0, 24, .inl zregister)), (n_mode, .inl (E.2.1 0, 3, .inl zmode)), (n_pc, .inl (E.2.1 0, 3, .inl zpc)), (n_base, .inl (E.2.1 0, 3, .inl zbase)), (n_bound, .inl (E.2.1 0, 3, .inl zbound)), (n_timer, .inl (E.2.1 0, 3, .inl ztimer)), (n_ranOut, .inl (E.2.1 3, 3, .inl zranOut)), (n_halted, .inl (E.2.1 3, 3, .inl zhalted)), (n_steps, .inl (E.2.1 0, 3, .inl zsteps)), (n_outs, .inl (E.2.1 0, 3, .inl zouts)), (n_output, .inl (E.2.1 0, 1500, .inl zoutput)), (n_waits, .inl (E.2.1 0, 3, .inl zwaits)), (n_typed, .inl (E.2.1 0, 300, .inl ztyped)), (n_disk, .inl (E.2.1 0, 384, .inl zdisk))]) rfl (by decide) ?_
  clear hP hD hS
  intro H locs hP hD hS
  clear hr
  refine lv_istore_n (lv' := [(2, .int r_10), (0, .ref n0), (1, .int x1), (3, .int x3), (4, .int x4), (5, .int x5), (6, .int x6), (7, .int x7)]) J.1 J.2.1 d_MD_step_254 rfl hl (by decide) rfl ?_
  clear hl
  intro ls hl
  refine lv_iload_n J.1 J.2.1 d_MD_step_255 rfl (lv_at hl 0 rfl) ?_
  refine lv_if_lt (tgt := 267) J.1 J.2.1 d_MD_step_256 (by decide) (fun c_11 => ?_) (fun c_11 => ?_)
  · replace h := g_t c_11 h
    refine lv_iload J.1 J.2.1 d_MD_step_267 (lv_at hl 5 rfl) ?_
    refine lv_bipush (v := 16) J.1 J.2.1 d_MD_step_269 (by decide) ?_
    refine lv_icmp_ne (tgt := 288) J.1 J.2.1 d_MD_step_271 (by decide) (fun c_12 => ?_) (fun c_12 => ?_)
    · replace h := g_f c_12 h
      refine lv_aload_n J.1 J.2.1 d_MD_step_288 rfl (lv_at hl 1 rfl) ?_
      refine jg J hJ hP 0 rfl rfl i_MD 7 (by decide) gf_MD_38 rfl d_MD_step_289 ?_
      refine lv_aload_n J.1 J.2.1 d_MD_step_292 rfl (lv_at hl 1 rfl) ?_
      refine jg J hJ hP 0 rfl rfl i_MD 38 (by decide) gf_MD_261 rfl d_MD_step_293 ?_
      replace h := g_ck h
      obtain ⟨k_13, h⟩ := h
      refine jai J hJ hP 4 rfl k_13 d_MD_step_296 ?_
      refine lv_iconst (v := 1) J.1 J.2.1 d_MD_step_297 (by decide) ?_
      refine lv_icmp_ne (tgt := 317) J.1 J.2.1 d_MD_step_298 (by decide) (fun c_14 => ?_) (fun c_14 => ?_)
      · replace h := g_f c_14 h
        exact kb_MD_step_317 J hJ hA hZ _ _ _ _ _ _ _ _ _ _ _ _ _ _ _ _ _ _ _ _ _ _ _ _ _ _ _ _ _ _ _ _ _ _ _ _ _ _ _ h hP hD hS (lv_sub hl [1, 2, 3, 4, 5, 6] rfl)
      · replace h := g_t c_14 h
        refine lv_aload_n J.1 J.2.1 d_MD_step_301 rfl (lv_at hl 1 rfl) ?_
        refine jg J hJ hP 0 rfl rfl i_MD 11 (by decide) gf_MD_50 rfl d_MD_step_302 ?_
        refine lv_aload_n J.1 J.2.1 d_MD_step_305 rfl (lv_at hl 1 rfl) ?_
        refine jg J hJ hP 0 rfl rfl i_MD 38 (by decide) gf_MD_261 rfl d_MD_step_306 ?_
        replace h := g_ck h
        obtain ⟨k_15, h⟩ := h
        refine jai J hJ hP 8 rfl k_15 d_MD_step_309 ?_
        refine lv_if_le (tgt := 317) J.1 J.2.1 d_MD_step_310 (by decide) (fun c_16 => ?_) (fun c_16 => ?_)
        · replace h := g_t c_16 h
          exact kb_MD_step_317 J hJ hA hZ _ _ _ _ _ _ _ _ _ _ _ _ _ _ _ _ _ _ _ _ _ _ _ _ _ _ _ _ _ _ _ _ _ _ _ _ _ _ _ h hP hD hS (lv_sub hl [1, 2, 3, 4, 5, 6] rfl)
        · replace h := g_f c_16 h
          refine lv_iconst (v := 1) J.1 J.2.1 d_MD_step_313 (by decide) ?_
          refine lv_goto (tgt := 318) J.1 J.2.1 d_MD_step_314 (by decide) ?_
          refine lv_istore (lv' := [(8, .int 1), (2, .int r_10), (0, .ref n0), (1, .int x1), (3, .int x3), (4, .int x4), (5, .int x5), (6, .int x6), (7, .int x7)]) J.1 J.2.1 d_MD_step_318 hl (by decide) rfl ?_
          clear hl
          intro ls hl
          exact kb_MD_step_320 J hJ hA hZ _ _ _ _ _ _ _ _ _ _ _ _ _ _ _ _ _ _ _ _ _ _ _ _ _ _ _ _ _ _ _ _ _ _ _ _ _ _ _ _ h hP hD hS (lv_sub hl [2, 3, 4, 5, 6, 7, 0] rfl)
    · replace h := g_t c_12 h
      refine lv_aload_n J.1 J.2.1 d_MD_step_274 rfl (lv_at hl 1 rfl) ?_
      refine lv_iconst (v := 3) J.1 J.2.1 d_MD_step_275 (by decide) ?_
      refine lv_iload J.1 J.2.1 d_MD_step_276 (lv_at hl 4 rfl) ?_
      refine lv_iload_n J.1 J.2.1 d_MD_step_278 rfl (lv_at hl 2 rfl) ?_
      refine lv_iconst (v := 2) J.1 J.2.1 d_MD_step_279 (by decide) ?_
      refine lv_iadd J.1 J.2.1 d_MD_step_280 ?_
      refine lv_ldc (v := 65536) J.1 J.2.1 J.2.2.2.2.1 (J.2.2.2.2.2.1 _ gk_MD_187) d_MD_step_281 ?_
      refine lv_irem J.1 J.2.1 d_MD_step_283 (by decide) ?_
      replace h := g_bd h
      obtain ⟨⟨zmemory_17, zmode_17, zpc_17, zbase_17, zbound_17, zranOut_17⟩, q_17, h⟩ := h
      try dsimp only at h
      have hq := ct_MD_trap l E n0 n_base n_bound n_depth n_disk n_halted n_isThere n_labelAddress n_labelFrom n_labelSize n_made n_memory n_mode n_output n_outs n_pc n_ranOut n_register n_size n_steps n_tape n_timer n_typed n_waits n_wants H.size ztaped zat zend zline zlabels zfault zfaultLine zisTold zaddress zmissing zgood zvalue zvalueFrom zvalueSize zme zmemory zmode zpc zbase zbound zranOut 3 x4 ((x1 + 2) - (x1 + 2) / 65536 * 65536) zmemory_17 zmode_17 zpc_17 zbase_17 zbound_17 zranOut_17 q_17
      have hr := jrunV (p := p) (e := e) (below := below) (R := ({ frames := 3, cells := 0, slots := 0, locals := 82 })) (cells := 0) (slots := 0) (As := [.int 3, .int x4, .int ((x1 + 2) - (x1 + 2) / 65536 * 65536)]) (rest := []) J hJ hA hZ hP hD hS hq [0, 2, 4, 5, 6, 7, 9] rfl (by decide) gl_MD_267 gi_MD_trap gsel_MD_trap gini_MD gc_MD_trap hd_MD_trap ⟨rfl, rfl, Nat.le_of_ble_eq_true rfl, Nat.le_of_ble_eq_true rfl⟩ rfl rfl hl.1 rfl rfl (Nat.le_of_ble_eq_true rfl) d_MD_step_284 ⟨Nat.zero_le _, Nat.zero_le _⟩
      clear hq
      refine jk_v hr hA hP hD hS [0, 2, 4, 5, 6, 7, 9] [1, 3, 8, 10, 11, 12, 13, 14, 15, 16] (WR := [(n_size, .inl (E.2.1 0, 3, .inl zsize)), (n_register, .inl (E.2.1 0, 24, .inl zregister)), (n_timer, .inl (E.2.1 0, 3, .inl ztimer)), (n_halted, .inl (E.2.1 3, 3, .inl zhalted)), (n_steps, .inl (E.2.1 0, 3, .inl zsteps)), (n_outs, .inl (E.2.1 0, 3, .inl zouts)), (n_output, .inl (E.2.1 0, 1500, .inl zoutput)), (n_waits, .inl (E.2.1 0, 3, .inl zwaits)), (n_typed, .inl (E.2.1 0, 300, .inl ztyped)), (n_disk, .inl (E.2.1 0, 384, .inl zdisk))]) rfl rfl (by decide) (by decide) [10, 0, 11, 1, 12, 13, 14, 15, 2, 16, 3, 4, 5, 6, 7, 8, 9] (WF := [(n0, .inr (6, [.ref n_tape, .int ztaped, .ref n_isThere, .ref n_size, .ref n_depth, .ref n_memory, .ref n_register, .ref n_mode, .ref n_pc, .ref n_base, .ref n_bound, .ref n_timer, .ref n_ranOut, .ref n_halted, .ref n_steps, .ref n_outs, .ref n_output, .ref n_waits, .ref n_typed, .ref n_disk, .ref n_wants, .int zat, .int zend, .int zline, .ref n_labelFrom, .ref n_labelSize, .ref n_labelAddress, .int zlabels, .int zfault, .int zfaultLine, .int zisTold, .int zaddress, .ref n_made, .int zmissing, .int zgood, .int zvalue, .int zvalueFrom, .int zvalueSize, .int zme])), (n_size, .inl (E.2.1 0, 3, .inl zsize)), (n_memory, .inl (E.2.1 0, 3072, .inl zmemory_17)), (n_register, .inl (E.2.1 0, 24, .inl zregister)), (n_mode, .inl (E.2.1 0, 3, .inl zmode_17)), (n_pc, .inl (E.2.1 0, 3, .inl zpc_17)), (n_base, .inl (E.2.1 0, 3, .inl zbase_17)), (n_bound, .inl (E.2.1 0, 3, .inl zbound_17)), (n_timer, .inl (E.2.1 0, 3, .inl ztimer)), (n_ranOut, .inl (E.2.1 3, 3, .inl zranOut_17)), (n_halted, .inl (E.2.1 3, 3, .inl zhalted)), (n_steps, .inl (E.2.1 0, 3, .inl zsteps)), (n_outs, .inl (E.2.1 0, 3, .inl zouts)), (n_output, .inl (E.2.1 0, 1500, .inl zoutput)), (n_waits, .inl (E.2.1 0, 3, .inl zwaits)), (n_typed, .inl (E.2.1 0, 300, .inl ztyped)), (n_disk, .inl (E.2.1 0, 384, .inl zdisk))]) rfl (by decide) ?_
      clear hP hD hS
      intro H locs hP hD hS
      clear hr
      have h := Option.some.inj h
      have e_0 := (Prod.mk.inj h).1
      have h := (Prod.mk.inj h).2
      have e_1 := (Prod.mk.inj h).1
      have h := (Prod.mk.inj h).2
      have e_2 := (Prod.mk.inj h).1
      have h := (Prod.mk.inj h).2
      have e_3 := (Prod.mk.inj h).1
      have h := (Prod.mk.inj h).2
      have e_4 := (Prod.mk.inj h).1
      have h := (Prod.mk.inj h).2
      have e_5 := (Prod.mk.inj h).1
      have h := (Prod.mk.inj h).2
      have e_6 := (Prod.mk.inj h).1
      have h := (Prod.mk.inj h).2
      have e_7 := (Prod.mk.inj h).1
      have h := (Prod.mk.inj h).2
      have e_8 := (Prod.mk.inj h).1
      have h := (Prod.mk.inj h).2
      have e_9 := (Prod.mk.inj h).1
      have h := (Prod.mk.inj h).2
      have e_10 := (Prod.mk.inj h).1
      have h := (Prod.mk.inj h).2
      have e_11 := (Prod.mk.inj h).1
      have h := (Prod.mk.inj h).2
      have e_12 := (Prod.mk.inj h).1
      have h := (Prod.mk.inj h).2
      have e_13 := (Prod.mk.inj h).1
      have h := (Prod.mk.inj h).2
      rw [← e_0, ← e_1, ← e_2, ← e_3, ← e_4, ← e_5, ← e_6, ← e_7, ← e_8, ← e_9, ← e_10, ← e_11, ← e_12, ← e_13, ← h]
      exact jr_v J hS hP hD d_MD_step_287
  · replace h := g_f c_11 h
    refine lv_aload_n J.1 J.2.1 d_MD_step_259 rfl (lv_at hl 1 rfl) ?_
    refine lv_iconst (v := 2) J.1 J.2.1 d_MD_step_260 (by decide) ?_
    refine lv_iload_n J.1 J.2.1 d_MD_step_261 rfl (lv_at hl 0 rfl) ?_
    refine lv_iload_n J.1 J.2.1 d_MD_step_262 rfl (lv_at hl 2 rfl) ?_
    replace h := g_bd h
    obtain ⟨⟨zmemory_18, zmode_18, zpc_18, zbase_18, zbound_18, zranOut_18⟩, q_18, h⟩ := h
    try dsimp only at h
    have hq := ct_MD_trap l E n0 n_base n_bound n_depth n_disk n_halted n_isThere n_labelAddress n_labelFrom n_labelSize n_made n_memory n_mode n_output n_outs n_pc n_ranOut n_register n_size n_steps n_tape n_timer n_typed n_waits n_wants H.size ztaped zat zend zline zlabels zfault zfaultLine zisTold zaddress zmissing zgood zvalue zvalueFrom zvalueSize zme zmemory zmode zpc zbase zbound zranOut 2 r_10 x1 zmemory_18 zmode_18 zpc_18 zbase_18 zbound_18 zranOut_18 q_18
    have hr := jrunV (p := p) (e := e) (below := below) (R := ({ frames := 3, cells := 0, slots := 0, locals := 82 })) (cells := 0) (slots := 0) (As := [.int 2, .int r_10, .int x1]) (rest := []) J hJ hA hZ hP hD hS hq [0, 2, 4, 5, 6, 7, 9] rfl (by decide) gl_MD_267 gi_MD_trap gsel_MD_trap gini_MD gc_MD_trap hd_MD_trap ⟨rfl, rfl, Nat.le_of_ble_eq_true rfl, Nat.le_of_ble_eq_true rfl⟩ rfl rfl hl.1 rfl rfl (Nat.le_of_ble_eq_true rfl) d_MD_step_263 ⟨Nat.zero_le _, Nat.zero_le _⟩
    clear hq
    refine jk_v hr hA hP hD hS [0, 2, 4, 5, 6, 7, 9] [1, 3, 8, 10, 11, 12, 13, 14, 15, 16] (WR := [(n_size, .inl (E.2.1 0, 3, .inl zsize)), (n_register, .inl (E.2.1 0, 24, .inl zregister)), (n_timer, .inl (E.2.1 0, 3, .inl ztimer)), (n_halted, .inl (E.2.1 3, 3, .inl zhalted)), (n_steps, .inl (E.2.1 0, 3, .inl zsteps)), (n_outs, .inl (E.2.1 0, 3, .inl zouts)), (n_output, .inl (E.2.1 0, 1500, .inl zoutput)), (n_waits, .inl (E.2.1 0, 3, .inl zwaits)), (n_typed, .inl (E.2.1 0, 300, .inl ztyped)), (n_disk, .inl (E.2.1 0, 384, .inl zdisk))]) rfl rfl (by decide) (by decide) [10, 0, 11, 1, 12, 13, 14, 15, 2, 16, 3, 4, 5, 6, 7, 8, 9] (WF := [(n0, .inr (6, [.ref n_tape, .int ztaped, .ref n_isThere, .ref n_size, .ref n_depth, .ref n_memory, .ref n_register, .ref n_mode, .ref n_pc, .ref n_base, .ref n_bound, .ref n_timer, .ref n_ranOut, .ref n_halted, .ref n_steps, .ref n_outs, .ref n_output, .ref n_waits, .ref n_typed, .ref n_disk, .ref n_wants, .int zat, .int zend, .int zline, .ref n_labelFrom, .ref n_labelSize, .ref n_labelAddress, .int zlabels, .int zfault, .int zfaultLine, .int zisTold, .int zaddress, .ref n_made, .int zmissing, .int zgood, .int zvalue, .int zvalueFrom, .int zvalueSize, .int zme])), (n_size, .inl (E.2.1 0, 3, .inl zsize)), (n_memory, .inl (E.2.1 0, 3072, .inl zmemory_18)), (n_register, .inl (E.2.1 0, 24, .inl zregister)), (n_mode, .inl (E.2.1 0, 3, .inl zmode_18)), (n_pc, .inl (E.2.1 0, 3, .inl zpc_18)), (n_base, .inl (E.2.1 0, 3, .inl zbase_18)), (n_bound, .inl (E.2.1 0, 3, .inl zbound_18)), (n_timer, .inl (E.2.1 0, 3, .inl ztimer)), (n_ranOut, .inl (E.2.1 3, 3, .inl zranOut_18)), (n_halted, .inl (E.2.1 3, 3, .inl zhalted)), (n_steps, .inl (E.2.1 0, 3, .inl zsteps)), (n_outs, .inl (E.2.1 0, 3, .inl zouts)), (n_output, .inl (E.2.1 0, 1500, .inl zoutput)), (n_waits, .inl (E.2.1 0, 3, .inl zwaits)), (n_typed, .inl (E.2.1 0, 300, .inl ztyped)), (n_disk, .inl (E.2.1 0, 384, .inl zdisk))]) rfl (by decide) ?_
    clear hP hD hS
    intro H locs hP hD hS
    clear hr
    have h := Option.some.inj h
    have e_0 := (Prod.mk.inj h).1
    have h := (Prod.mk.inj h).2
    have e_1 := (Prod.mk.inj h).1
    have h := (Prod.mk.inj h).2
    have e_2 := (Prod.mk.inj h).1
    have h := (Prod.mk.inj h).2
    have e_3 := (Prod.mk.inj h).1
    have h := (Prod.mk.inj h).2
    have e_4 := (Prod.mk.inj h).1
    have h := (Prod.mk.inj h).2
    have e_5 := (Prod.mk.inj h).1
    have h := (Prod.mk.inj h).2
    have e_6 := (Prod.mk.inj h).1
    have h := (Prod.mk.inj h).2
    have e_7 := (Prod.mk.inj h).1
    have h := (Prod.mk.inj h).2
    have e_8 := (Prod.mk.inj h).1
    have h := (Prod.mk.inj h).2
    have e_9 := (Prod.mk.inj h).1
    have h := (Prod.mk.inj h).2
    have e_10 := (Prod.mk.inj h).1
    have h := (Prod.mk.inj h).2
    have e_11 := (Prod.mk.inj h).1
    have h := (Prod.mk.inj h).2
    have e_12 := (Prod.mk.inj h).1
    have h := (Prod.mk.inj h).2
    have e_13 := (Prod.mk.inj h).1
    have h := (Prod.mk.inj h).2
    rw [← e_0, ← e_1, ← e_2, ← e_3, ← e_4, ← e_5, ← e_6, ← e_7, ← e_8, ← e_9, ← e_10, ← e_11, ← e_12, ← e_13, ← h]
    exact jr_v J hS hP hD d_MD_step_266
set_option maxHeartbeats 4000000 in
set_option maxRecDepth 100000 in
theorem kb_MD_step_227 {p : Program} {l : Launch} {e : Env} {s : State} {m : MethodId} {below : List Frame} {meth : Method} {c : Code} {A : Nat → Prop} {E : jz_E} {n0 n_base n_bound n_depth n_disk n_halted n_isThere n_labelAddress n_labelFrom n_labelSize n_made n_memory n_mode n_output n_outs n_pc n_ranOut n_register n_size n_steps n_tape n_timer n_typed n_waits n_wants : Nat} {o_zmemory : Nat → Int32} {o_zregister : Nat → Int32} {o_zmode : Nat → Int32} {o_zpc : Nat → Int32} {o_zbase : Nat → Int32} {o_zbound : Nat → Int32} {o_ztimer : Nat → Int32} {o_zranOut : Nat → Int32} {o_zhalted : Nat → Int32} {o_zsteps : Nat → Int32} {o_zouts : Nat → Int32} {o_zoutput : Nat → Int32} {o_zwaits : Nat → Int32} {o_ztyped : Nat → Int32} {o_zdisk : Nat → Int32} (J : JC p s m ([.ref n0] : List Value).toArray meth c c_MD_step 9 none y_MD_step.cls) (hJ : jE E s) (hA : ∀ q : Nat, s.heap.size ≤ q → A q) (hZ : jz_ok E A s s.heap) : ∀ (ztaped : Int32) (zat : Int32) (zend : Int32) (zline : Int32) (zlabels : Int32) (zfault : Int32) (zfaultLine : Int32) (zisTold : Int32) (zaddress : Int32) (zmissing : Int32) (zgood : Int32) (zvalue : Int32) (zvalueFrom : Int32) (zvalueSize : Int32) (zme : Int32) (zsize : Nat → Int32) (zmemory : Nat → Int32) (zregister : Nat → Int32) (zmode : Nat → Int32) (zpc : Nat → Int32) (zbase : Nat → Int32) (zbound : Nat → Int32) (ztimer : Nat → Int32) (zranOut : Nat → Int32) (zhalted : Nat → Int32) (zsteps : Nat → Int32) (zouts : Nat → Int32) (zoutput : Nat → Int32) (zwaits : Nat → Int32) (ztyped : Nat → Int32) (zdisk : Nat → Int32) (x1 : Int32) (x3 : Int32) (x4 : Int32) (x5 : Int32) (x6 : Int32) (H : Heap) (locs : List Loc) (ls : Array Slot), b_MD_step_227 zme zsize zmemory zregister zmode zpc zbase zbound ztimer zranOut zhalted zsteps zouts zoutput zwaits ztyped zdisk x1 x3 x4 x5 x6 = some (o_zmemory, o_zregister, o_zmode, o_zpc, o_zbase, o_zbound, o_ztimer, o_zranOut, o_zhalted, o_zsteps, o_zouts, o_zoutput, o_zwaits, o_ztyped, o_zdisk) → va_P E.1 classes [(n0, .inr (6, [.ref n_tape, .int ztaped, .ref n_isThere, .ref n_size, .ref n_depth, .ref n_memory, .ref n_register, .ref n_mode, .ref n_pc, .ref n_base, .ref n_bound, .ref n_timer, .ref n_ranOut, .ref n_halted, .ref n_steps, .ref n_outs, .ref n_output, .ref n_waits, .ref n_typed, .ref n_disk, .ref n_wants, .int zat, .int zend, .int zline, .ref n_labelFrom, .ref n_labelSize, .ref n_labelAddress, .int zlabels, .int zfault, .int zfaultLine, .int zisTold, .int zaddress, .ref n_made, .int zmissing, .int zgood, .int zvalue, .int zvalueFrom, .int zvalueSize, .int zme])), (n_size, .inl (E.2.1 0, 3, .inl zsize)), (n_memory, .inl (E.2.1 0, 3072, .inl zmemory)), (n_register, .inl (E.2.1 0, 24, .inl zregister)), (n_mode, .inl (E.2.1 0, 3, .inl zmode)), (n_pc, .inl (E.2.1 0, 3, .inl zpc)), (n_base, .inl (E.2.1 0, 3, .inl zbase)), (n_bound, .inl (E.2.1 0, 3, .inl zbound)), (n_timer, .inl (E.2.1 0, 3, .inl ztimer)), (n_ranOut, .inl (E.2.1 3, 3, .inl zranOut)), (n_halted, .inl (E.2.1 3, 3, .inl zhalted)), (n_steps, .inl (E.2.1 0, 3, .inl zsteps)), (n_outs, .inl (E.2.1 0, 3, .inl zouts)), (n_output, .inl (E.2.1 0, 1500, .inl zoutput)), (n_waits, .inl (E.2.1 0, 3, .inl zwaits)), (n_typed, .inl (E.2.1 0, 300, .inl ztyped)), (n_disk, .inl (E.2.1 0, 384, .inl zdisk))] H → va_D A [(n0, .inr (6, [.ref n_tape, .int ztaped, .ref n_isThere, .ref n_size, .ref n_depth, .ref n_memory, .ref n_register, .ref n_mode, .ref n_pc, .ref n_base, .ref n_bound, .ref n_timer, .ref n_ranOut, .ref n_halted, .ref n_steps, .ref n_outs, .ref n_output, .ref n_waits, .ref n_typed, .ref n_disk, .ref n_wants, .int zat, .int zend, .int zline, .ref n_labelFrom, .ref n_labelSize, .ref n_labelAddress, .int zlabels, .int zfault, .int zfaultLine, .int zisTold, .int zaddress, .ref n_made, .int zmissing, .int zgood, .int zvalue, .int zvalueFrom, .int zvalueSize, .int zme])), (n_size, .inl (E.2.1 0, 3, .inl zsize)), (n_memory, .inl (E.2.1 0, 3072, .inl zmemory)), (n_register, .inl (E.2.1 0, 24, .inl zregister)), (n_mode, .inl (E.2.1 0, 3, .inl zmode)), (n_pc, .inl (E.2.1 0, 3, .inl zpc)), (n_base, .inl (E.2.1 0, 3, .inl zbase)), (n_bound, .inl (E.2.1 0, 3, .inl zbound)), (n_timer, .inl (E.2.1 0, 3, .inl ztimer)), (n_ranOut, .inl (E.2.1 3, 3, .inl zranOut)), (n_halted, .inl (E.2.1 3, 3, .inl zhalted)), (n_steps, .inl (E.2.1 0, 3, .inl zsteps)), (n_outs, .inl (E.2.1 0, 3, .inl zouts)), (n_output, .inl (E.2.1 0, 1500, .inl zoutput)), (n_waits, .inl (E.2.1 0, 3, .inl zwaits)), (n_typed, .inl (E.2.1 0, 300, .inl ztyped)), (n_disk, .inl (E.2.1 0, 384, .inl zdisk))] → va_S A s.heap H locs → lv_has ls 9 [(0, .ref n0), (1, .int x1), (3, .int x3), (4, .int x4), (5, .int x5), (6, .int x6)] → W p l e ({ frames := 3, cells := 0, slots := 0, locals := 82 }) s m ([.ref n0] : List Value).toArray below meth c H locs 0 0 (MQ below (va_Qv (fun (u : va_W) => u = [(n0, .inr (6, [.ref n_tape, .int ztaped, .ref n_isThere, .ref n_size, .ref n_depth, .ref n_memory, .ref n_register, .ref n_mode, .ref n_pc, .ref n_base, .ref n_bound, .ref n_timer, .ref n_ranOut, .ref n_halted, .ref n_steps, .ref n_outs, .ref n_output, .ref n_waits, .ref n_typed, .ref n_disk, .ref n_wants, .int zat, .int zend, .int zline, .ref n_labelFrom, .ref n_labelSize, .ref n_labelAddress, .int zlabels, .int zfault, .int zfaultLine, .int zisTold, .int zaddress, .ref n_made, .int zmissing, .int zgood, .int zvalue, .int zvalueFrom, .int zvalueSize, .int zme])), (n_size, .inl (E.2.1 0, 3, .inl zsize)), (n_memory, .inl (E.2.1 0, 3072, .inl o_zmemory)), (n_register, .inl (E.2.1 0, 24, .inl o_zregister)), (n_mode, .inl (E.2.1 0, 3, .inl o_zmode)), (n_pc, .inl (E.2.1 0, 3, .inl o_zpc)), (n_base, .inl (E.2.1 0, 3, .inl o_zbase)), (n_bound, .inl (E.2.1 0, 3, .inl o_zbound)), (n_timer, .inl (E.2.1 0, 3, .inl o_ztimer)), (n_ranOut, .inl (E.2.1 3, 3, .inl o_zranOut)), (n_halted, .inl (E.2.1 3, 3, .inl o_zhalted)), (n_steps, .inl (E.2.1 0, 3, .inl o_zsteps)), (n_outs, .inl (E.2.1 0, 3, .inl o_zouts)), (n_output, .inl (E.2.1 0, 1500, .inl o_zoutput)), (n_waits, .inl (E.2.1 0, 3, .inl o_zwaits)), (n_typed, .inl (E.2.1 0, 300, .inl o_ztyped)), (n_disk, .inl (E.2.1 0, 384, .inl o_zdisk))]) (BW E A) A) ([.ref n0] : List Value).toArray s 0 0 A) (F0 m 227 ls []) := by
  intro ztaped zat zend zline zlabels zfault zfaultLine zisTold zaddress zmissing zgood zvalue zvalueFrom zvalueSize zme zsize zmemory zregister zmode zpc zbase zbound ztimer zranOut zhalted zsteps zouts zoutput zwaits ztyped zdisk x1 x3 x4 x5 x6 H locs ls h hP hD hS hl
  rw [b_MD_step_227] at h
  refine lv_iconst (v := 4) J.1 J.2.1 d_MD_step_227 (by decide) ?_
  refine lv_goto (tgt := 244) J.1 J.2.1 d_MD_step_228 (by decide) ?_
  refine lv_istore (lv' := [(7, .int 4), (0, .ref n0), (1, .int x1), (3, .int x3), (4, .int x4), (5, .int x5), (6, .int x6)]) J.1 J.2.1 d_MD_step_244 hl (by decide) rfl ?_
  clear hl
  intro ls hl
  exact kb_MD_step_246 J hJ hA hZ _ _ _ _ _ _ _ _ _ _ _ _ _ _ _ _ _ _ _ _ _ _ _ _ _ _ _ _ _ _ _ _ _ _ _ _ _ _ _ _ h hP hD hS (lv_sub hl [1, 2, 3, 4, 5, 6, 0] rfl)
set_option maxHeartbeats 4000000 in
set_option maxRecDepth 100000 in
theorem kb_MD_step_213 {p : Program} {l : Launch} {e : Env} {s : State} {m : MethodId} {below : List Frame} {meth : Method} {c : Code} {A : Nat → Prop} {E : jz_E} {n0 n_base n_bound n_depth n_disk n_halted n_isThere n_labelAddress n_labelFrom n_labelSize n_made n_memory n_mode n_output n_outs n_pc n_ranOut n_register n_size n_steps n_tape n_timer n_typed n_waits n_wants : Nat} {o_zmemory : Nat → Int32} {o_zregister : Nat → Int32} {o_zmode : Nat → Int32} {o_zpc : Nat → Int32} {o_zbase : Nat → Int32} {o_zbound : Nat → Int32} {o_ztimer : Nat → Int32} {o_zranOut : Nat → Int32} {o_zhalted : Nat → Int32} {o_zsteps : Nat → Int32} {o_zouts : Nat → Int32} {o_zoutput : Nat → Int32} {o_zwaits : Nat → Int32} {o_ztyped : Nat → Int32} {o_zdisk : Nat → Int32} (J : JC p s m ([.ref n0] : List Value).toArray meth c c_MD_step 9 none y_MD_step.cls) (hJ : jE E s) (hA : ∀ q : Nat, s.heap.size ≤ q → A q) (hZ : jz_ok E A s s.heap) : ∀ (ztaped : Int32) (zat : Int32) (zend : Int32) (zline : Int32) (zlabels : Int32) (zfault : Int32) (zfaultLine : Int32) (zisTold : Int32) (zaddress : Int32) (zmissing : Int32) (zgood : Int32) (zvalue : Int32) (zvalueFrom : Int32) (zvalueSize : Int32) (zme : Int32) (zsize : Nat → Int32) (zmemory : Nat → Int32) (zregister : Nat → Int32) (zmode : Nat → Int32) (zpc : Nat → Int32) (zbase : Nat → Int32) (zbound : Nat → Int32) (ztimer : Nat → Int32) (zranOut : Nat → Int32) (zhalted : Nat → Int32) (zsteps : Nat → Int32) (zouts : Nat → Int32) (zoutput : Nat → Int32) (zwaits : Nat → Int32) (ztyped : Nat → Int32) (zdisk : Nat → Int32) (x1 : Int32) (x3 : Int32) (x4 : Int32) (x5 : Int32) (x6 : Int32) (H : Heap) (locs : List Loc) (ls : Array Slot), b_MD_step_213 zme zsize zmemory zregister zmode zpc zbase zbound ztimer zranOut zhalted zsteps zouts zoutput zwaits ztyped zdisk x1 x3 x4 x5 x6 = some (o_zmemory, o_zregister, o_zmode, o_zpc, o_zbase, o_zbound, o_ztimer, o_zranOut, o_zhalted, o_zsteps, o_zouts, o_zoutput, o_zwaits, o_ztyped, o_zdisk) → va_P E.1 classes [(n0, .inr (6, [.ref n_tape, .int ztaped, .ref n_isThere, .ref n_size, .ref n_depth, .ref n_memory, .ref n_register, .ref n_mode, .ref n_pc, .ref n_base, .ref n_bound, .ref n_timer, .ref n_ranOut, .ref n_halted, .ref n_steps, .ref n_outs, .ref n_output, .ref n_waits, .ref n_typed, .ref n_disk, .ref n_wants, .int zat, .int zend, .int zline, .ref n_labelFrom, .ref n_labelSize, .ref n_labelAddress, .int zlabels, .int zfault, .int zfaultLine, .int zisTold, .int zaddress, .ref n_made, .int zmissing, .int zgood, .int zvalue, .int zvalueFrom, .int zvalueSize, .int zme])), (n_size, .inl (E.2.1 0, 3, .inl zsize)), (n_memory, .inl (E.2.1 0, 3072, .inl zmemory)), (n_register, .inl (E.2.1 0, 24, .inl zregister)), (n_mode, .inl (E.2.1 0, 3, .inl zmode)), (n_pc, .inl (E.2.1 0, 3, .inl zpc)), (n_base, .inl (E.2.1 0, 3, .inl zbase)), (n_bound, .inl (E.2.1 0, 3, .inl zbound)), (n_timer, .inl (E.2.1 0, 3, .inl ztimer)), (n_ranOut, .inl (E.2.1 3, 3, .inl zranOut)), (n_halted, .inl (E.2.1 3, 3, .inl zhalted)), (n_steps, .inl (E.2.1 0, 3, .inl zsteps)), (n_outs, .inl (E.2.1 0, 3, .inl zouts)), (n_output, .inl (E.2.1 0, 1500, .inl zoutput)), (n_waits, .inl (E.2.1 0, 3, .inl zwaits)), (n_typed, .inl (E.2.1 0, 300, .inl ztyped)), (n_disk, .inl (E.2.1 0, 384, .inl zdisk))] H → va_D A [(n0, .inr (6, [.ref n_tape, .int ztaped, .ref n_isThere, .ref n_size, .ref n_depth, .ref n_memory, .ref n_register, .ref n_mode, .ref n_pc, .ref n_base, .ref n_bound, .ref n_timer, .ref n_ranOut, .ref n_halted, .ref n_steps, .ref n_outs, .ref n_output, .ref n_waits, .ref n_typed, .ref n_disk, .ref n_wants, .int zat, .int zend, .int zline, .ref n_labelFrom, .ref n_labelSize, .ref n_labelAddress, .int zlabels, .int zfault, .int zfaultLine, .int zisTold, .int zaddress, .ref n_made, .int zmissing, .int zgood, .int zvalue, .int zvalueFrom, .int zvalueSize, .int zme])), (n_size, .inl (E.2.1 0, 3, .inl zsize)), (n_memory, .inl (E.2.1 0, 3072, .inl zmemory)), (n_register, .inl (E.2.1 0, 24, .inl zregister)), (n_mode, .inl (E.2.1 0, 3, .inl zmode)), (n_pc, .inl (E.2.1 0, 3, .inl zpc)), (n_base, .inl (E.2.1 0, 3, .inl zbase)), (n_bound, .inl (E.2.1 0, 3, .inl zbound)), (n_timer, .inl (E.2.1 0, 3, .inl ztimer)), (n_ranOut, .inl (E.2.1 3, 3, .inl zranOut)), (n_halted, .inl (E.2.1 3, 3, .inl zhalted)), (n_steps, .inl (E.2.1 0, 3, .inl zsteps)), (n_outs, .inl (E.2.1 0, 3, .inl zouts)), (n_output, .inl (E.2.1 0, 1500, .inl zoutput)), (n_waits, .inl (E.2.1 0, 3, .inl zwaits)), (n_typed, .inl (E.2.1 0, 300, .inl ztyped)), (n_disk, .inl (E.2.1 0, 384, .inl zdisk))] → va_S A s.heap H locs → lv_has ls 9 [(0, .ref n0), (1, .int x1), (3, .int x3), (4, .int x4), (5, .int x5), (6, .int x6)] → W p l e ({ frames := 3, cells := 0, slots := 0, locals := 82 }) s m ([.ref n0] : List Value).toArray below meth c H locs 0 0 (MQ below (va_Qv (fun (u : va_W) => u = [(n0, .inr (6, [.ref n_tape, .int ztaped, .ref n_isThere, .ref n_size, .ref n_depth, .ref n_memory, .ref n_register, .ref n_mode, .ref n_pc, .ref n_base, .ref n_bound, .ref n_timer, .ref n_ranOut, .ref n_halted, .ref n_steps, .ref n_outs, .ref n_output, .ref n_waits, .ref n_typed, .ref n_disk, .ref n_wants, .int zat, .int zend, .int zline, .ref n_labelFrom, .ref n_labelSize, .ref n_labelAddress, .int zlabels, .int zfault, .int zfaultLine, .int zisTold, .int zaddress, .ref n_made, .int zmissing, .int zgood, .int zvalue, .int zvalueFrom, .int zvalueSize, .int zme])), (n_size, .inl (E.2.1 0, 3, .inl zsize)), (n_memory, .inl (E.2.1 0, 3072, .inl o_zmemory)), (n_register, .inl (E.2.1 0, 24, .inl o_zregister)), (n_mode, .inl (E.2.1 0, 3, .inl o_zmode)), (n_pc, .inl (E.2.1 0, 3, .inl o_zpc)), (n_base, .inl (E.2.1 0, 3, .inl o_zbase)), (n_bound, .inl (E.2.1 0, 3, .inl o_zbound)), (n_timer, .inl (E.2.1 0, 3, .inl o_ztimer)), (n_ranOut, .inl (E.2.1 3, 3, .inl o_zranOut)), (n_halted, .inl (E.2.1 3, 3, .inl o_zhalted)), (n_steps, .inl (E.2.1 0, 3, .inl o_zsteps)), (n_outs, .inl (E.2.1 0, 3, .inl o_zouts)), (n_output, .inl (E.2.1 0, 1500, .inl o_zoutput)), (n_waits, .inl (E.2.1 0, 3, .inl o_zwaits)), (n_typed, .inl (E.2.1 0, 300, .inl o_ztyped)), (n_disk, .inl (E.2.1 0, 384, .inl o_zdisk))]) (BW E A) A) ([.ref n0] : List Value).toArray s 0 0 A) (F0 m 213 ls []) := by
  intro ztaped zat zend zline zlabels zfault zfaultLine zisTold zaddress zmissing zgood zvalue zvalueFrom zvalueSize zme zsize zmemory zregister zmode zpc zbase zbound ztimer zranOut zhalted zsteps zouts zoutput zwaits ztyped zdisk x1 x3 x4 x5 x6 H locs ls h hP hD hS hl
  rw [b_MD_step_213] at h
  refine lv_iload J.1 J.2.1 d_MD_step_213 (lv_at hl 4 rfl) ?_
  refine lv_bipush (v := 17) J.1 J.2.1 d_MD_step_215 (by decide) ?_
  refine lv_icmp_eq (tgt := 227) J.1 J.2.1 d_MD_step_217 (by decide) (fun c_19 => ?_) (fun c_19 => ?_)
  · replace h := g_t c_19 h
    exact kb_MD_step_227 J hJ hA hZ _ _ _ _ _ _ _ _ _ _ _ _ _ _ _ _ _ _ _ _ _ _ _ _ _ _ _ _ _ _ _ _ _ _ _ _ _ _ _ h hP hD hS (lv_sub hl [0, 1, 2, 3, 4, 5] rfl)
  · replace h := g_f c_19 h
    refine lv_iload J.1 J.2.1 d_MD_step_220 (lv_at hl 4 rfl) ?_
    refine lv_bipush (v := 18) J.1 J.2.1 d_MD_step_222 (by decide) ?_
    refine lv_icmp_ne (tgt := 231) J.1 J.2.1 d_MD_step_224 (by decide) (fun c_20 => ?_) (fun c_20 => ?_)
    · replace h := g_f c_20 h
      refine lv_iload J.1 J.2.1 d_MD_step_231 (lv_at hl 4 rfl) ?_
      refine lv_bipush (v := 22) J.1 J.2.1 d_MD_step_233 (by decide) ?_
      refine lv_icmp_le (tgt := 243) J.1 J.2.1 d_MD_step_235 (by decide) (fun c_21 => ?_) (fun c_21 => ?_)
      · replace h := g_t c_21 h
        refine lv_iconst (v := 0) J.1 J.2.1 d_MD_step_243 (by decide) ?_
        refine lv_istore (lv' := [(7, .int 0), (0, .ref n0), (1, .int x1), (3, .int x3), (4, .int x4), (5, .int x5), (6, .int x6)]) J.1 J.2.1 d_MD_step_244 hl (by decide) rfl ?_
        clear hl
        intro ls hl
        exact kb_MD_step_246 J hJ hA hZ _ _ _ _ _ _ _ _ _ _ _ _ _ _ _ _ _ _ _ _ _ _ _ _ _ _ _ _ _ _ _ _ _ _ _ _ _ _ _ _ h hP hD hS (lv_sub hl [1, 2, 3, 4, 5, 6, 0] rfl)
      · replace h := g_f c_21 h
        refine lv_bipush (v := 16) J.1 J.2.1 d_MD_step_238 (by decide) ?_
        refine lv_goto (tgt := 244) J.1 J.2.1 d_MD_step_240 (by decide) ?_
        refine lv_istore (lv' := [(7, .int 16), (0, .ref n0), (1, .int x1), (3, .int x3), (4, .int x4), (5, .int x5), (6, .int x6)]) J.1 J.2.1 d_MD_step_244 hl (by decide) rfl ?_
        clear hl
        intro ls hl
        exact kb_MD_step_246 J hJ hA hZ _ _ _ _ _ _ _ _ _ _ _ _ _ _ _ _ _ _ _ _ _ _ _ _ _ _ _ _ _ _ _ _ _ _ _ _ _ _ _ _ h hP hD hS (lv_sub hl [1, 2, 3, 4, 5, 6, 0] rfl)
    · replace h := g_t c_20 h
      exact kb_MD_step_227 J hJ hA hZ _ _ _ _ _ _ _ _ _ _ _ _ _ _ _ _ _ _ _ _ _ _ _ _ _ _ _ _ _ _ _ _ _ _ _ _ _ _ _ h hP hD hS (lv_sub hl [0, 1, 2, 3, 4, 5] rfl)
set_option maxHeartbeats 4000000 in
set_option maxRecDepth 100000 in
theorem kb_MD_step_196 {p : Program} {l : Launch} {e : Env} {s : State} {m : MethodId} {below : List Frame} {meth : Method} {c : Code} {A : Nat → Prop} {E : jz_E} {n0 n_base n_bound n_depth n_disk n_halted n_isThere n_labelAddress n_labelFrom n_labelSize n_made n_memory n_mode n_output n_outs n_pc n_ranOut n_register n_size n_steps n_tape n_timer n_typed n_waits n_wants : Nat} {o_zmemory : Nat → Int32} {o_zregister : Nat → Int32} {o_zmode : Nat → Int32} {o_zpc : Nat → Int32} {o_zbase : Nat → Int32} {o_zbound : Nat → Int32} {o_ztimer : Nat → Int32} {o_zranOut : Nat → Int32} {o_zhalted : Nat → Int32} {o_zsteps : Nat → Int32} {o_zouts : Nat → Int32} {o_zoutput : Nat → Int32} {o_zwaits : Nat → Int32} {o_ztyped : Nat → Int32} {o_zdisk : Nat → Int32} (J : JC p s m ([.ref n0] : List Value).toArray meth c c_MD_step 9 none y_MD_step.cls) (hJ : jE E s) (hA : ∀ q : Nat, s.heap.size ≤ q → A q) (hZ : jz_ok E A s s.heap) : ∀ (ztaped : Int32) (zat : Int32) (zend : Int32) (zline : Int32) (zlabels : Int32) (zfault : Int32) (zfaultLine : Int32) (zisTold : Int32) (zaddress : Int32) (zmissing : Int32) (zgood : Int32) (zvalue : Int32) (zvalueFrom : Int32) (zvalueSize : Int32) (zme : Int32) (zsize : Nat → Int32) (zmemory : Nat → Int32) (zregister : Nat → Int32) (zmode : Nat → Int32) (zpc : Nat → Int32) (zbase : Nat → Int32) (zbound : Nat → Int32) (ztimer : Nat → Int32) (zranOut : Nat → Int32) (zhalted : Nat → Int32) (zsteps : Nat → Int32) (zouts : Nat → Int32) (zoutput : Nat → Int32) (zwaits : Nat → Int32) (ztyped : Nat → Int32) (zdisk : Nat → Int32) (x1 : Int32) (x3 : Int32) (x4 : Int32) (x5 : Int32) (x6 : Int32) (H : Heap) (locs : List Loc) (ls : Array Slot), b_MD_step_196 zme zsize zmemory zregister zmode zpc zbase zbound ztimer zranOut zhalted zsteps zouts zoutput zwaits ztyped zdisk x1 x3 x4 x5 x6 = some (o_zmemory, o_zregister, o_zmode, o_zpc, o_zbase, o_zbound, o_ztimer, o_zranOut, o_zhalted, o_zsteps, o_zouts, o_zoutput, o_zwaits, o_ztyped, o_zdisk) → va_P E.1 classes [(n0, .inr (6, [.ref n_tape, .int ztaped, .ref n_isThere, .ref n_size, .ref n_depth, .ref n_memory, .ref n_register, .ref n_mode, .ref n_pc, .ref n_base, .ref n_bound, .ref n_timer, .ref n_ranOut, .ref n_halted, .ref n_steps, .ref n_outs, .ref n_output, .ref n_waits, .ref n_typed, .ref n_disk, .ref n_wants, .int zat, .int zend, .int zline, .ref n_labelFrom, .ref n_labelSize, .ref n_labelAddress, .int zlabels, .int zfault, .int zfaultLine, .int zisTold, .int zaddress, .ref n_made, .int zmissing, .int zgood, .int zvalue, .int zvalueFrom, .int zvalueSize, .int zme])), (n_size, .inl (E.2.1 0, 3, .inl zsize)), (n_memory, .inl (E.2.1 0, 3072, .inl zmemory)), (n_register, .inl (E.2.1 0, 24, .inl zregister)), (n_mode, .inl (E.2.1 0, 3, .inl zmode)), (n_pc, .inl (E.2.1 0, 3, .inl zpc)), (n_base, .inl (E.2.1 0, 3, .inl zbase)), (n_bound, .inl (E.2.1 0, 3, .inl zbound)), (n_timer, .inl (E.2.1 0, 3, .inl ztimer)), (n_ranOut, .inl (E.2.1 3, 3, .inl zranOut)), (n_halted, .inl (E.2.1 3, 3, .inl zhalted)), (n_steps, .inl (E.2.1 0, 3, .inl zsteps)), (n_outs, .inl (E.2.1 0, 3, .inl zouts)), (n_output, .inl (E.2.1 0, 1500, .inl zoutput)), (n_waits, .inl (E.2.1 0, 3, .inl zwaits)), (n_typed, .inl (E.2.1 0, 300, .inl ztyped)), (n_disk, .inl (E.2.1 0, 384, .inl zdisk))] H → va_D A [(n0, .inr (6, [.ref n_tape, .int ztaped, .ref n_isThere, .ref n_size, .ref n_depth, .ref n_memory, .ref n_register, .ref n_mode, .ref n_pc, .ref n_base, .ref n_bound, .ref n_timer, .ref n_ranOut, .ref n_halted, .ref n_steps, .ref n_outs, .ref n_output, .ref n_waits, .ref n_typed, .ref n_disk, .ref n_wants, .int zat, .int zend, .int zline, .ref n_labelFrom, .ref n_labelSize, .ref n_labelAddress, .int zlabels, .int zfault, .int zfaultLine, .int zisTold, .int zaddress, .ref n_made, .int zmissing, .int zgood, .int zvalue, .int zvalueFrom, .int zvalueSize, .int zme])), (n_size, .inl (E.2.1 0, 3, .inl zsize)), (n_memory, .inl (E.2.1 0, 3072, .inl zmemory)), (n_register, .inl (E.2.1 0, 24, .inl zregister)), (n_mode, .inl (E.2.1 0, 3, .inl zmode)), (n_pc, .inl (E.2.1 0, 3, .inl zpc)), (n_base, .inl (E.2.1 0, 3, .inl zbase)), (n_bound, .inl (E.2.1 0, 3, .inl zbound)), (n_timer, .inl (E.2.1 0, 3, .inl ztimer)), (n_ranOut, .inl (E.2.1 3, 3, .inl zranOut)), (n_halted, .inl (E.2.1 3, 3, .inl zhalted)), (n_steps, .inl (E.2.1 0, 3, .inl zsteps)), (n_outs, .inl (E.2.1 0, 3, .inl zouts)), (n_output, .inl (E.2.1 0, 1500, .inl zoutput)), (n_waits, .inl (E.2.1 0, 3, .inl zwaits)), (n_typed, .inl (E.2.1 0, 300, .inl ztyped)), (n_disk, .inl (E.2.1 0, 384, .inl zdisk))] → va_S A s.heap H locs → lv_has ls 9 [(0, .ref n0), (1, .int x1), (3, .int x3), (4, .int x4), (5, .int x5), (6, .int x6)] → W p l e ({ frames := 3, cells := 0, slots := 0, locals := 82 }) s m ([.ref n0] : List Value).toArray below meth c H locs 0 0 (MQ below (va_Qv (fun (u : va_W) => u = [(n0, .inr (6, [.ref n_tape, .int ztaped, .ref n_isThere, .ref n_size, .ref n_depth, .ref n_memory, .ref n_register, .ref n_mode, .ref n_pc, .ref n_base, .ref n_bound, .ref n_timer, .ref n_ranOut, .ref n_halted, .ref n_steps, .ref n_outs, .ref n_output, .ref n_waits, .ref n_typed, .ref n_disk, .ref n_wants, .int zat, .int zend, .int zline, .ref n_labelFrom, .ref n_labelSize, .ref n_labelAddress, .int zlabels, .int zfault, .int zfaultLine, .int zisTold, .int zaddress, .ref n_made, .int zmissing, .int zgood, .int zvalue, .int zvalueFrom, .int zvalueSize, .int zme])), (n_size, .inl (E.2.1 0, 3, .inl zsize)), (n_memory, .inl (E.2.1 0, 3072, .inl o_zmemory)), (n_register, .inl (E.2.1 0, 24, .inl o_zregister)), (n_mode, .inl (E.2.1 0, 3, .inl o_zmode)), (n_pc, .inl (E.2.1 0, 3, .inl o_zpc)), (n_base, .inl (E.2.1 0, 3, .inl o_zbase)), (n_bound, .inl (E.2.1 0, 3, .inl o_zbound)), (n_timer, .inl (E.2.1 0, 3, .inl o_ztimer)), (n_ranOut, .inl (E.2.1 3, 3, .inl o_zranOut)), (n_halted, .inl (E.2.1 3, 3, .inl o_zhalted)), (n_steps, .inl (E.2.1 0, 3, .inl o_zsteps)), (n_outs, .inl (E.2.1 0, 3, .inl o_zouts)), (n_output, .inl (E.2.1 0, 1500, .inl o_zoutput)), (n_waits, .inl (E.2.1 0, 3, .inl o_zwaits)), (n_typed, .inl (E.2.1 0, 300, .inl o_ztyped)), (n_disk, .inl (E.2.1 0, 384, .inl o_zdisk))]) (BW E A) A) ([.ref n0] : List Value).toArray s 0 0 A) (F0 m 196 ls []) := by
  intro ztaped zat zend zline zlabels zfault zfaultLine zisTold zaddress zmissing zgood zvalue zvalueFrom zvalueSize zme zsize zmemory zregister zmode zpc zbase zbound ztimer zranOut zhalted zsteps zouts zoutput zwaits ztyped zdisk x1 x3 x4 x5 x6 H locs ls h hP hD hS hl
  rw [b_MD_step_196] at h
  refine lv_iload J.1 J.2.1 d_MD_step_196 (lv_at hl 4 rfl) ?_
  refine lv_iconst (v := 1) J.1 J.2.1 d_MD_step_198 (by decide) ?_
  refine lv_icmp_le (tgt := 213) J.1 J.2.1 d_MD_step_199 (by decide) (fun c_22 => ?_) (fun c_22 => ?_)
  · replace h := g_t c_22 h
    exact kb_MD_step_213 J hJ hA hZ _ _ _ _ _ _ _ _ _ _ _ _ _ _ _ _ _ _ _ _ _ _ _ _ _ _ _ _ _ _ _ _ _ _ _ _ _ _ _ h hP hD hS (lv_sub hl [0, 1, 2, 3, 4, 5] rfl)
  · replace h := g_f c_22 h
    refine lv_iload J.1 J.2.1 d_MD_step_202 (lv_at hl 4 rfl) ?_
    refine lv_bipush (v := 6) J.1 J.2.1 d_MD_step_204 (by decide) ?_
    refine lv_icmp_ge (tgt := 213) J.1 J.2.1 d_MD_step_206 (by decide) (fun c_23 => ?_) (fun c_23 => ?_)
    · replace h := g_t c_23 h
      exact kb_MD_step_213 J hJ hA hZ _ _ _ _ _ _ _ _ _ _ _ _ _ _ _ _ _ _ _ _ _ _ _ _ _ _ _ _ _ _ _ _ _ _ _ _ _ _ _ h hP hD hS (lv_sub hl [0, 1, 2, 3, 4, 5] rfl)
    · replace h := g_f c_23 h
      refine lv_iconst (v := 1) J.1 J.2.1 d_MD_step_209 (by decide) ?_
      refine lv_goto (tgt := 244) J.1 J.2.1 d_MD_step_210 (by decide) ?_
      refine lv_istore (lv' := [(7, .int 1), (0, .ref n0), (1, .int x1), (3, .int x3), (4, .int x4), (5, .int x5), (6, .int x6)]) J.1 J.2.1 d_MD_step_244 hl (by decide) rfl ?_
      clear hl
      intro ls hl
      exact kb_MD_step_246 J hJ hA hZ _ _ _ _ _ _ _ _ _ _ _ _ _ _ _ _ _ _ _ _ _ _ _ _ _ _ _ _ _ _ _ _ _ _ _ _ _ _ _ _ h hP hD hS (lv_sub hl [1, 2, 3, 4, 5, 6, 0] rfl)
set_option maxHeartbeats 4000000 in
set_option maxRecDepth 100000 in
theorem kb_MD_step_166 {p : Program} {l : Launch} {e : Env} {s : State} {m : MethodId} {below : List Frame} {meth : Method} {c : Code} {A : Nat → Prop} {E : jz_E} {n0 n_base n_bound n_depth n_disk n_halted n_isThere n_labelAddress n_labelFrom n_labelSize n_made n_memory n_mode n_output n_outs n_pc n_ranOut n_register n_size n_steps n_tape n_timer n_typed n_waits n_wants : Nat} {o_zmemory : Nat → Int32} {o_zregister : Nat → Int32} {o_zmode : Nat → Int32} {o_zpc : Nat → Int32} {o_zbase : Nat → Int32} {o_zbound : Nat → Int32} {o_ztimer : Nat → Int32} {o_zranOut : Nat → Int32} {o_zhalted : Nat → Int32} {o_zsteps : Nat → Int32} {o_zouts : Nat → Int32} {o_zoutput : Nat → Int32} {o_zwaits : Nat → Int32} {o_ztyped : Nat → Int32} {o_zdisk : Nat → Int32} (J : JC p s m ([.ref n0] : List Value).toArray meth c c_MD_step 9 none y_MD_step.cls) (hJ : jE E s) (hA : ∀ q : Nat, s.heap.size ≤ q → A q) (hZ : jz_ok E A s s.heap) : ∀ (ztaped : Int32) (zat : Int32) (zend : Int32) (zline : Int32) (zlabels : Int32) (zfault : Int32) (zfaultLine : Int32) (zisTold : Int32) (zaddress : Int32) (zmissing : Int32) (zgood : Int32) (zvalue : Int32) (zvalueFrom : Int32) (zvalueSize : Int32) (zme : Int32) (zsize : Nat → Int32) (zmemory : Nat → Int32) (zregister : Nat → Int32) (zmode : Nat → Int32) (zpc : Nat → Int32) (zbase : Nat → Int32) (zbound : Nat → Int32) (ztimer : Nat → Int32) (zranOut : Nat → Int32) (zhalted : Nat → Int32) (zsteps : Nat → Int32) (zouts : Nat → Int32) (zoutput : Nat → Int32) (zwaits : Nat → Int32) (ztyped : Nat → Int32) (zdisk : Nat → Int32) (x1 : Int32) (x3 : Int32) (x4 : Int32) (x5 : Int32) (H : Heap) (locs : List Loc) (ls : Array Slot), b_MD_step_166 zme zsize zmemory zregister zmode zpc zbase zbound ztimer zranOut zhalted zsteps zouts zoutput zwaits ztyped zdisk x1 x3 x4 x5 = some (o_zmemory, o_zregister, o_zmode, o_zpc, o_zbase, o_zbound, o_ztimer, o_zranOut, o_zhalted, o_zsteps, o_zouts, o_zoutput, o_zwaits, o_ztyped, o_zdisk) → va_P E.1 classes [(n0, .inr (6, [.ref n_tape, .int ztaped, .ref n_isThere, .ref n_size, .ref n_depth, .ref n_memory, .ref n_register, .ref n_mode, .ref n_pc, .ref n_base, .ref n_bound, .ref n_timer, .ref n_ranOut, .ref n_halted, .ref n_steps, .ref n_outs, .ref n_output, .ref n_waits, .ref n_typed, .ref n_disk, .ref n_wants, .int zat, .int zend, .int zline, .ref n_labelFrom, .ref n_labelSize, .ref n_labelAddress, .int zlabels, .int zfault, .int zfaultLine, .int zisTold, .int zaddress, .ref n_made, .int zmissing, .int zgood, .int zvalue, .int zvalueFrom, .int zvalueSize, .int zme])), (n_size, .inl (E.2.1 0, 3, .inl zsize)), (n_memory, .inl (E.2.1 0, 3072, .inl zmemory)), (n_register, .inl (E.2.1 0, 24, .inl zregister)), (n_mode, .inl (E.2.1 0, 3, .inl zmode)), (n_pc, .inl (E.2.1 0, 3, .inl zpc)), (n_base, .inl (E.2.1 0, 3, .inl zbase)), (n_bound, .inl (E.2.1 0, 3, .inl zbound)), (n_timer, .inl (E.2.1 0, 3, .inl ztimer)), (n_ranOut, .inl (E.2.1 3, 3, .inl zranOut)), (n_halted, .inl (E.2.1 3, 3, .inl zhalted)), (n_steps, .inl (E.2.1 0, 3, .inl zsteps)), (n_outs, .inl (E.2.1 0, 3, .inl zouts)), (n_output, .inl (E.2.1 0, 1500, .inl zoutput)), (n_waits, .inl (E.2.1 0, 3, .inl zwaits)), (n_typed, .inl (E.2.1 0, 300, .inl ztyped)), (n_disk, .inl (E.2.1 0, 384, .inl zdisk))] H → va_D A [(n0, .inr (6, [.ref n_tape, .int ztaped, .ref n_isThere, .ref n_size, .ref n_depth, .ref n_memory, .ref n_register, .ref n_mode, .ref n_pc, .ref n_base, .ref n_bound, .ref n_timer, .ref n_ranOut, .ref n_halted, .ref n_steps, .ref n_outs, .ref n_output, .ref n_waits, .ref n_typed, .ref n_disk, .ref n_wants, .int zat, .int zend, .int zline, .ref n_labelFrom, .ref n_labelSize, .ref n_labelAddress, .int zlabels, .int zfault, .int zfaultLine, .int zisTold, .int zaddress, .ref n_made, .int zmissing, .int zgood, .int zvalue, .int zvalueFrom, .int zvalueSize, .int zme])), (n_size, .inl (E.2.1 0, 3, .inl zsize)), (n_memory, .inl (E.2.1 0, 3072, .inl zmemory)), (n_register, .inl (E.2.1 0, 24, .inl zregister)), (n_mode, .inl (E.2.1 0, 3, .inl zmode)), (n_pc, .inl (E.2.1 0, 3, .inl zpc)), (n_base, .inl (E.2.1 0, 3, .inl zbase)), (n_bound, .inl (E.2.1 0, 3, .inl zbound)), (n_timer, .inl (E.2.1 0, 3, .inl ztimer)), (n_ranOut, .inl (E.2.1 3, 3, .inl zranOut)), (n_halted, .inl (E.2.1 3, 3, .inl zhalted)), (n_steps, .inl (E.2.1 0, 3, .inl zsteps)), (n_outs, .inl (E.2.1 0, 3, .inl zouts)), (n_output, .inl (E.2.1 0, 1500, .inl zoutput)), (n_waits, .inl (E.2.1 0, 3, .inl zwaits)), (n_typed, .inl (E.2.1 0, 300, .inl ztyped)), (n_disk, .inl (E.2.1 0, 384, .inl zdisk))] → va_S A s.heap H locs → lv_has ls 9 [(0, .ref n0), (1, .int x1), (3, .int x3), (4, .int x4), (5, .int x5)] → W p l e ({ frames := 3, cells := 0, slots := 0, locals := 82 }) s m ([.ref n0] : List Value).toArray below meth c H locs 0 0 (MQ below (va_Qv (fun (u : va_W) => u = [(n0, .inr (6, [.ref n_tape, .int ztaped, .ref n_isThere, .ref n_size, .ref n_depth, .ref n_memory, .ref n_register, .ref n_mode, .ref n_pc, .ref n_base, .ref n_bound, .ref n_timer, .ref n_ranOut, .ref n_halted, .ref n_steps, .ref n_outs, .ref n_output, .ref n_waits, .ref n_typed, .ref n_disk, .ref n_wants, .int zat, .int zend, .int zline, .ref n_labelFrom, .ref n_labelSize, .ref n_labelAddress, .int zlabels, .int zfault, .int zfaultLine, .int zisTold, .int zaddress, .ref n_made, .int zmissing, .int zgood, .int zvalue, .int zvalueFrom, .int zvalueSize, .int zme])), (n_size, .inl (E.2.1 0, 3, .inl zsize)), (n_memory, .inl (E.2.1 0, 3072, .inl o_zmemory)), (n_register, .inl (E.2.1 0, 24, .inl o_zregister)), (n_mode, .inl (E.2.1 0, 3, .inl o_zmode)), (n_pc, .inl (E.2.1 0, 3, .inl o_zpc)), (n_base, .inl (E.2.1 0, 3, .inl o_zbase)), (n_bound, .inl (E.2.1 0, 3, .inl o_zbound)), (n_timer, .inl (E.2.1 0, 3, .inl o_ztimer)), (n_ranOut, .inl (E.2.1 3, 3, .inl o_zranOut)), (n_halted, .inl (E.2.1 3, 3, .inl o_zhalted)), (n_steps, .inl (E.2.1 0, 3, .inl o_zsteps)), (n_outs, .inl (E.2.1 0, 3, .inl o_zouts)), (n_output, .inl (E.2.1 0, 1500, .inl o_zoutput)), (n_waits, .inl (E.2.1 0, 3, .inl o_zwaits)), (n_typed, .inl (E.2.1 0, 300, .inl o_ztyped)), (n_disk, .inl (E.2.1 0, 384, .inl o_zdisk))]) (BW E A) A) ([.ref n0] : List Value).toArray s 0 0 A) (F0 m 166 ls []) := by
  intro ztaped zat zend zline zlabels zfault zfaultLine zisTold zaddress zmissing zgood zvalue zvalueFrom zvalueSize zme zsize zmemory zregister zmode zpc zbase zbound ztimer zranOut zhalted zsteps zouts zoutput zwaits ztyped zdisk x1 x3 x4 x5 H locs ls h hP hD hS hl
  rw [b_MD_step_166] at h
  refine lv_aload_n J.1 J.2.1 d_MD_step_166 rfl (lv_at hl 0 rfl) ?_
  refine jg J hJ hP 0 rfl rfl i_MD 6 (by decide) gf_MD_35 rfl d_MD_step_167 ?_
  refine lv_bipush (v := 8) J.1 J.2.1 d_MD_step_170 (by decide) ?_
  refine lv_aload_n J.1 J.2.1 d_MD_step_172 rfl (lv_at hl 0 rfl) ?_
  refine jg J hJ hP 0 rfl rfl i_MD 38 (by decide) gf_MD_261 rfl d_MD_step_173 ?_
  refine lv_imul J.1 J.2.1 d_MD_step_176 ?_
  refine lv_iload_n J.1 J.2.1 d_MD_step_177 rfl (lv_at hl 2 rfl) ?_
  refine lv_bipush (v := 8) J.1 J.2.1 d_MD_step_178 (by decide) ?_
  refine lv_irem J.1 J.2.1 d_MD_step_180 (by decide) ?_
  refine lv_iadd J.1 J.2.1 d_MD_step_181 ?_
  replace h := g_ck h
  obtain ⟨k_24, h⟩ := h
  refine jai J hJ hP 3 rfl k_24 d_MD_step_182 ?_
  refine lv_iload J.1 J.2.1 d_MD_step_183 (lv_at hl 3 rfl) ?_
  refine lv_iadd J.1 J.2.1 d_MD_step_185 ?_
  refine lv_ldc (v := 65536) J.1 J.2.1 J.2.2.2.2.1 (J.2.2.2.2.2.1 _ gk_MD_187) d_MD_step_186 ?_
  refine lv_irem J.1 J.2.1 d_MD_step_188 (by decide) ?_
  refine lv_goto (tgt := 194) J.1 J.2.1 d_MD_step_189 (by decide) ?_
  refine lv_istore (lv' := [(6, .int (((zregister ((8 * zme) + (x3 - x3 / 8 * 8)).toNatClampNeg) + x4) - ((zregister ((8 * zme) + (x3 - x3 / 8 * 8)).toNatClampNeg) + x4) / 65536 * 65536)), (0, .ref n0), (1, .int x1), (3, .int x3), (4, .int x4), (5, .int x5)]) J.1 J.2.1 d_MD_step_194 hl (by decide) rfl ?_
  clear hl
  intro ls hl
  exact kb_MD_step_196 J hJ hA hZ _ _ _ _ _ _ _ _ _ _ _ _ _ _ _ _ _ _ _ _ _ _ _ _ _ _ _ _ _ _ _ _ _ _ _ _ _ _ _ h hP hD hS (lv_sub hl [1, 2, 3, 4, 5, 0] rfl)
set_option maxHeartbeats 4000000 in
set_option maxRecDepth 100000 in
theorem kb_MD_step_147 {p : Program} {l : Launch} {e : Env} {s : State} {m : MethodId} {below : List Frame} {meth : Method} {c : Code} {A : Nat → Prop} {E : jz_E} {n0 n_base n_bound n_depth n_disk n_halted n_isThere n_labelAddress n_labelFrom n_labelSize n_made n_memory n_mode n_output n_outs n_pc n_ranOut n_register n_size n_steps n_tape n_timer n_typed n_waits n_wants : Nat} {o_zmemory : Nat → Int32} {o_zregister : Nat → Int32} {o_zmode : Nat → Int32} {o_zpc : Nat → Int32} {o_zbase : Nat → Int32} {o_zbound : Nat → Int32} {o_ztimer : Nat → Int32} {o_zranOut : Nat → Int32} {o_zhalted : Nat → Int32} {o_zsteps : Nat → Int32} {o_zouts : Nat → Int32} {o_zoutput : Nat → Int32} {o_zwaits : Nat → Int32} {o_ztyped : Nat → Int32} {o_zdisk : Nat → Int32} (J : JC p s m ([.ref n0] : List Value).toArray meth c c_MD_step 9 none y_MD_step.cls) (hJ : jE E s) (hA : ∀ q : Nat, s.heap.size ≤ q → A q) (hZ : jz_ok E A s s.heap) : ∀ (ztaped : Int32) (zat : Int32) (zend : Int32) (zline : Int32) (zlabels : Int32) (zfault : Int32) (zfaultLine : Int32) (zisTold : Int32) (zaddress : Int32) (zmissing : Int32) (zgood : Int32) (zvalue : Int32) (zvalueFrom : Int32) (zvalueSize : Int32) (zme : Int32) (zsize : Nat → Int32) (zmemory : Nat → Int32) (zregister : Nat → Int32) (zmode : Nat → Int32) (zpc : Nat → Int32) (zbase : Nat → Int32) (zbound : Nat → Int32) (ztimer : Nat → Int32) (zranOut : Nat → Int32) (zhalted : Nat → Int32) (zsteps : Nat → Int32) (zouts : Nat → Int32) (zoutput : Nat → Int32) (zwaits : Nat → Int32) (ztyped : Nat → Int32) (zdisk : Nat → Int32) (x1 : Int32) (x3 : Int32) (x4 : Int32) (x5 : Int32) (H : Heap) (locs : List Loc) (ls : Array Slot), b_MD_step_147 zme zsize zmemory zregister zmode zpc zbase zbound ztimer zranOut zhalted zsteps zouts zoutput zwaits ztyped zdisk x1 x3 x4 x5 = some (o_zmemory, o_zregister, o_zmode, o_zpc, o_zbase, o_zbound, o_ztimer, o_zranOut, o_zhalted, o_zsteps, o_zouts, o_zoutput, o_zwaits, o_ztyped, o_zdisk) → va_P E.1 classes [(n0, .inr (6, [.ref n_tape, .int ztaped, .ref n_isThere, .ref n_size, .ref n_depth, .ref n_memory, .ref n_register, .ref n_mode, .ref n_pc, .ref n_base, .ref n_bound, .ref n_timer, .ref n_ranOut, .ref n_halted, .ref n_steps, .ref n_outs, .ref n_output, .ref n_waits, .ref n_typed, .ref n_disk, .ref n_wants, .int zat, .int zend, .int zline, .ref n_labelFrom, .ref n_labelSize, .ref n_labelAddress, .int zlabels, .int zfault, .int zfaultLine, .int zisTold, .int zaddress, .ref n_made, .int zmissing, .int zgood, .int zvalue, .int zvalueFrom, .int zvalueSize, .int zme])), (n_size, .inl (E.2.1 0, 3, .inl zsize)), (n_memory, .inl (E.2.1 0, 3072, .inl zmemory)), (n_register, .inl (E.2.1 0, 24, .inl zregister)), (n_mode, .inl (E.2.1 0, 3, .inl zmode)), (n_pc, .inl (E.2.1 0, 3, .inl zpc)), (n_base, .inl (E.2.1 0, 3, .inl zbase)), (n_bound, .inl (E.2.1 0, 3, .inl zbound)), (n_timer, .inl (E.2.1 0, 3, .inl ztimer)), (n_ranOut, .inl (E.2.1 3, 3, .inl zranOut)), (n_halted, .inl (E.2.1 3, 3, .inl zhalted)), (n_steps, .inl (E.2.1 0, 3, .inl zsteps)), (n_outs, .inl (E.2.1 0, 3, .inl zouts)), (n_output, .inl (E.2.1 0, 1500, .inl zoutput)), (n_waits, .inl (E.2.1 0, 3, .inl zwaits)), (n_typed, .inl (E.2.1 0, 300, .inl ztyped)), (n_disk, .inl (E.2.1 0, 384, .inl zdisk))] H → va_D A [(n0, .inr (6, [.ref n_tape, .int ztaped, .ref n_isThere, .ref n_size, .ref n_depth, .ref n_memory, .ref n_register, .ref n_mode, .ref n_pc, .ref n_base, .ref n_bound, .ref n_timer, .ref n_ranOut, .ref n_halted, .ref n_steps, .ref n_outs, .ref n_output, .ref n_waits, .ref n_typed, .ref n_disk, .ref n_wants, .int zat, .int zend, .int zline, .ref n_labelFrom, .ref n_labelSize, .ref n_labelAddress, .int zlabels, .int zfault, .int zfaultLine, .int zisTold, .int zaddress, .ref n_made, .int zmissing, .int zgood, .int zvalue, .int zvalueFrom, .int zvalueSize, .int zme])), (n_size, .inl (E.2.1 0, 3, .inl zsize)), (n_memory, .inl (E.2.1 0, 3072, .inl zmemory)), (n_register, .inl (E.2.1 0, 24, .inl zregister)), (n_mode, .inl (E.2.1 0, 3, .inl zmode)), (n_pc, .inl (E.2.1 0, 3, .inl zpc)), (n_base, .inl (E.2.1 0, 3, .inl zbase)), (n_bound, .inl (E.2.1 0, 3, .inl zbound)), (n_timer, .inl (E.2.1 0, 3, .inl ztimer)), (n_ranOut, .inl (E.2.1 3, 3, .inl zranOut)), (n_halted, .inl (E.2.1 3, 3, .inl zhalted)), (n_steps, .inl (E.2.1 0, 3, .inl zsteps)), (n_outs, .inl (E.2.1 0, 3, .inl zouts)), (n_output, .inl (E.2.1 0, 1500, .inl zoutput)), (n_waits, .inl (E.2.1 0, 3, .inl zwaits)), (n_typed, .inl (E.2.1 0, 300, .inl ztyped)), (n_disk, .inl (E.2.1 0, 384, .inl zdisk))] → va_S A s.heap H locs → lv_has ls 9 [(0, .ref n0), (1, .int x1), (3, .int x3), (4, .int x4), (5, .int x5)] → W p l e ({ frames := 3, cells := 0, slots := 0, locals := 82 }) s m ([.ref n0] : List Value).toArray below meth c H locs 0 0 (MQ below (va_Qv (fun (u : va_W) => u = [(n0, .inr (6, [.ref n_tape, .int ztaped, .ref n_isThere, .ref n_size, .ref n_depth, .ref n_memory, .ref n_register, .ref n_mode, .ref n_pc, .ref n_base, .ref n_bound, .ref n_timer, .ref n_ranOut, .ref n_halted, .ref n_steps, .ref n_outs, .ref n_output, .ref n_waits, .ref n_typed, .ref n_disk, .ref n_wants, .int zat, .int zend, .int zline, .ref n_labelFrom, .ref n_labelSize, .ref n_labelAddress, .int zlabels, .int zfault, .int zfaultLine, .int zisTold, .int zaddress, .ref n_made, .int zmissing, .int zgood, .int zvalue, .int zvalueFrom, .int zvalueSize, .int zme])), (n_size, .inl (E.2.1 0, 3, .inl zsize)), (n_memory, .inl (E.2.1 0, 3072, .inl o_zmemory)), (n_register, .inl (E.2.1 0, 24, .inl o_zregister)), (n_mode, .inl (E.2.1 0, 3, .inl o_zmode)), (n_pc, .inl (E.2.1 0, 3, .inl o_zpc)), (n_base, .inl (E.2.1 0, 3, .inl o_zbase)), (n_bound, .inl (E.2.1 0, 3, .inl o_zbound)), (n_timer, .inl (E.2.1 0, 3, .inl o_ztimer)), (n_ranOut, .inl (E.2.1 3, 3, .inl o_zranOut)), (n_halted, .inl (E.2.1 3, 3, .inl o_zhalted)), (n_steps, .inl (E.2.1 0, 3, .inl o_zsteps)), (n_outs, .inl (E.2.1 0, 3, .inl o_zouts)), (n_output, .inl (E.2.1 0, 1500, .inl o_zoutput)), (n_waits, .inl (E.2.1 0, 3, .inl o_zwaits)), (n_typed, .inl (E.2.1 0, 300, .inl o_ztyped)), (n_disk, .inl (E.2.1 0, 384, .inl o_zdisk))]) (BW E A) A) ([.ref n0] : List Value).toArray s 0 0 A) (F0 m 147 ls []) := by
  intro ztaped zat zend zline zlabels zfault zfaultLine zisTold zaddress zmissing zgood zvalue zvalueFrom zvalueSize zme zsize zmemory zregister zmode zpc zbase zbound ztimer zranOut zhalted zsteps zouts zoutput zwaits ztyped zdisk x1 x3 x4 x5 H locs ls h hP hD hS hl
  rw [b_MD_step_147] at h
  refine lv_iload J.1 J.2.1 d_MD_step_147 (lv_at hl 4 rfl) ?_
  refine lv_iconst (v := 4) J.1 J.2.1 d_MD_step_149 (by decide) ?_
  refine lv_icmp_eq (tgt := 166) J.1 J.2.1 d_MD_step_150 (by decide) (fun c_25 => ?_) (fun c_25 => ?_)
  · replace h := g_t c_25 h
    exact kb_MD_step_166 J hJ hA hZ _ _ _ _ _ _ _ _ _ _ _ _ _ _ _ _ _ _ _ _ _ _ _ _ _ _ _ _ _ _ _ _ _ _ _ _ _ _ h hP hD hS (lv_sub hl [0, 1, 2, 3, 4] rfl)
  · replace h := g_f c_25 h
    refine lv_iload J.1 J.2.1 d_MD_step_153 (lv_at hl 4 rfl) ?_
    refine lv_iconst (v := 5) J.1 J.2.1 d_MD_step_155 (by decide) ?_
    refine lv_icmp_eq (tgt := 166) J.1 J.2.1 d_MD_step_156 (by decide) (fun c_26 => ?_) (fun c_26 => ?_)
    · replace h := g_t c_26 h
      exact kb_MD_step_166 J hJ hA hZ _ _ _ _ _ _ _ _ _ _ _ _ _ _ _ _ _ _ _ _ _ _ _ _ _ _ _ _ _ _ _ _ _ _ _ _ _ _ h hP hD hS (lv_sub hl [0, 1, 2, 3, 4] rfl)
    · replace h := g_f c_26 h
      refine lv_iload J.1 J.2.1 d_MD_step_159 (lv_at hl 4 rfl) ?_
      refine lv_bipush (v := 22) J.1 J.2.1 d_MD_step_161 (by decide) ?_
      refine lv_icmp_le (tgt := 192) J.1 J.2.1 d_MD_step_163 (by decide) (fun c_27 => ?_) (fun c_27 => ?_)
      · replace h := g_t c_27 h
        refine lv_iload J.1 J.2.1 d_MD_step_192 (lv_at hl 3 rfl) ?_
        refine lv_istore (lv' := [(6, .int x4), (0, .ref n0), (1, .int x1), (3, .int x3), (4, .int x4), (5, .int x5)]) J.1 J.2.1 d_MD_step_194 hl (by decide) rfl ?_
        clear hl
        intro ls hl
        exact kb_MD_step_196 J hJ hA hZ _ _ _ _ _ _ _ _ _ _ _ _ _ _ _ _ _ _ _ _ _ _ _ _ _ _ _ _ _ _ _ _ _ _ _ _ _ _ _ h hP hD hS (lv_sub hl [1, 2, 3, 4, 5, 0] rfl)
      · replace h := g_f c_27 h
        exact kb_MD_step_166 J hJ hA hZ _ _ _ _ _ _ _ _ _ _ _ _ _ _ _ _ _ _ _ _ _ _ _ _ _ _ _ _ _ _ _ _ _ _ _ _ _ _ h hP hD hS (lv_sub hl [0, 1, 2, 3, 4] rfl)
set_option maxHeartbeats 4000000 in
set_option maxRecDepth 100000 in
theorem kb_MD_step_56 {p : Program} {l : Launch} {e : Env} {s : State} {m : MethodId} {below : List Frame} {meth : Method} {c : Code} {A : Nat → Prop} {E : jz_E} {n0 n_base n_bound n_depth n_disk n_halted n_isThere n_labelAddress n_labelFrom n_labelSize n_made n_memory n_mode n_output n_outs n_pc n_ranOut n_register n_size n_steps n_tape n_timer n_typed n_waits n_wants : Nat} {o_zmemory : Nat → Int32} {o_zregister : Nat → Int32} {o_zmode : Nat → Int32} {o_zpc : Nat → Int32} {o_zbase : Nat → Int32} {o_zbound : Nat → Int32} {o_ztimer : Nat → Int32} {o_zranOut : Nat → Int32} {o_zhalted : Nat → Int32} {o_zsteps : Nat → Int32} {o_zouts : Nat → Int32} {o_zoutput : Nat → Int32} {o_zwaits : Nat → Int32} {o_ztyped : Nat → Int32} {o_zdisk : Nat → Int32} (J : JC p s m ([.ref n0] : List Value).toArray meth c c_MD_step 9 none y_MD_step.cls) (hJ : jE E s) (hA : ∀ q : Nat, s.heap.size ≤ q → A q) (hZ : jz_ok E A s s.heap) : ∀ (ztaped : Int32) (zat : Int32) (zend : Int32) (zline : Int32) (zlabels : Int32) (zfault : Int32) (zfaultLine : Int32) (zisTold : Int32) (zaddress : Int32) (zmissing : Int32) (zgood : Int32) (zvalue : Int32) (zvalueFrom : Int32) (zvalueSize : Int32) (zme : Int32) (zsize : Nat → Int32) (zmemory : Nat → Int32) (zregister : Nat → Int32) (zmode : Nat → Int32) (zpc : Nat → Int32) (zbase : Nat → Int32) (zbound : Nat → Int32) (ztimer : Nat → Int32) (zranOut : Nat → Int32) (zhalted : Nat → Int32) (zsteps : Nat → Int32) (zouts : Nat → Int32) (zoutput : Nat → Int32) (zwaits : Nat → Int32) (ztyped : Nat → Int32) (zdisk : Nat → Int32) (x1 : Int32) (H : Heap) (locs : List Loc) (ls : Array Slot), b_MD_step_56 zme zsize zmemory zregister zmode zpc zbase zbound ztimer zranOut zhalted zsteps zouts zoutput zwaits ztyped zdisk x1 = some (o_zmemory, o_zregister, o_zmode, o_zpc, o_zbase, o_zbound, o_ztimer, o_zranOut, o_zhalted, o_zsteps, o_zouts, o_zoutput, o_zwaits, o_ztyped, o_zdisk) → va_P E.1 classes [(n0, .inr (6, [.ref n_tape, .int ztaped, .ref n_isThere, .ref n_size, .ref n_depth, .ref n_memory, .ref n_register, .ref n_mode, .ref n_pc, .ref n_base, .ref n_bound, .ref n_timer, .ref n_ranOut, .ref n_halted, .ref n_steps, .ref n_outs, .ref n_output, .ref n_waits, .ref n_typed, .ref n_disk, .ref n_wants, .int zat, .int zend, .int zline, .ref n_labelFrom, .ref n_labelSize, .ref n_labelAddress, .int zlabels, .int zfault, .int zfaultLine, .int zisTold, .int zaddress, .ref n_made, .int zmissing, .int zgood, .int zvalue, .int zvalueFrom, .int zvalueSize, .int zme])), (n_size, .inl (E.2.1 0, 3, .inl zsize)), (n_memory, .inl (E.2.1 0, 3072, .inl zmemory)), (n_register, .inl (E.2.1 0, 24, .inl zregister)), (n_mode, .inl (E.2.1 0, 3, .inl zmode)), (n_pc, .inl (E.2.1 0, 3, .inl zpc)), (n_base, .inl (E.2.1 0, 3, .inl zbase)), (n_bound, .inl (E.2.1 0, 3, .inl zbound)), (n_timer, .inl (E.2.1 0, 3, .inl ztimer)), (n_ranOut, .inl (E.2.1 3, 3, .inl zranOut)), (n_halted, .inl (E.2.1 3, 3, .inl zhalted)), (n_steps, .inl (E.2.1 0, 3, .inl zsteps)), (n_outs, .inl (E.2.1 0, 3, .inl zouts)), (n_output, .inl (E.2.1 0, 1500, .inl zoutput)), (n_waits, .inl (E.2.1 0, 3, .inl zwaits)), (n_typed, .inl (E.2.1 0, 300, .inl ztyped)), (n_disk, .inl (E.2.1 0, 384, .inl zdisk))] H → va_D A [(n0, .inr (6, [.ref n_tape, .int ztaped, .ref n_isThere, .ref n_size, .ref n_depth, .ref n_memory, .ref n_register, .ref n_mode, .ref n_pc, .ref n_base, .ref n_bound, .ref n_timer, .ref n_ranOut, .ref n_halted, .ref n_steps, .ref n_outs, .ref n_output, .ref n_waits, .ref n_typed, .ref n_disk, .ref n_wants, .int zat, .int zend, .int zline, .ref n_labelFrom, .ref n_labelSize, .ref n_labelAddress, .int zlabels, .int zfault, .int zfaultLine, .int zisTold, .int zaddress, .ref n_made, .int zmissing, .int zgood, .int zvalue, .int zvalueFrom, .int zvalueSize, .int zme])), (n_size, .inl (E.2.1 0, 3, .inl zsize)), (n_memory, .inl (E.2.1 0, 3072, .inl zmemory)), (n_register, .inl (E.2.1 0, 24, .inl zregister)), (n_mode, .inl (E.2.1 0, 3, .inl zmode)), (n_pc, .inl (E.2.1 0, 3, .inl zpc)), (n_base, .inl (E.2.1 0, 3, .inl zbase)), (n_bound, .inl (E.2.1 0, 3, .inl zbound)), (n_timer, .inl (E.2.1 0, 3, .inl ztimer)), (n_ranOut, .inl (E.2.1 3, 3, .inl zranOut)), (n_halted, .inl (E.2.1 3, 3, .inl zhalted)), (n_steps, .inl (E.2.1 0, 3, .inl zsteps)), (n_outs, .inl (E.2.1 0, 3, .inl zouts)), (n_output, .inl (E.2.1 0, 1500, .inl zoutput)), (n_waits, .inl (E.2.1 0, 3, .inl zwaits)), (n_typed, .inl (E.2.1 0, 300, .inl ztyped)), (n_disk, .inl (E.2.1 0, 384, .inl zdisk))] → va_S A s.heap H locs → lv_has ls 9 [(0, .ref n0), (1, .int x1)] → W p l e ({ frames := 3, cells := 0, slots := 0, locals := 82 }) s m ([.ref n0] : List Value).toArray below meth c H locs 0 0 (MQ below (va_Qv (fun (u : va_W) => u = [(n0, .inr (6, [.ref n_tape, .int ztaped, .ref n_isThere, .ref n_size, .ref n_depth, .ref n_memory, .ref n_register, .ref n_mode, .ref n_pc, .ref n_base, .ref n_bound, .ref n_timer, .ref n_ranOut, .ref n_halted, .ref n_steps, .ref n_outs, .ref n_output, .ref n_waits, .ref n_typed, .ref n_disk, .ref n_wants, .int zat, .int zend, .int zline, .ref n_labelFrom, .ref n_labelSize, .ref n_labelAddress, .int zlabels, .int zfault, .int zfaultLine, .int zisTold, .int zaddress, .ref n_made, .int zmissing, .int zgood, .int zvalue, .int zvalueFrom, .int zvalueSize, .int zme])), (n_size, .inl (E.2.1 0, 3, .inl zsize)), (n_memory, .inl (E.2.1 0, 3072, .inl o_zmemory)), (n_register, .inl (E.2.1 0, 24, .inl o_zregister)), (n_mode, .inl (E.2.1 0, 3, .inl o_zmode)), (n_pc, .inl (E.2.1 0, 3, .inl o_zpc)), (n_base, .inl (E.2.1 0, 3, .inl o_zbase)), (n_bound, .inl (E.2.1 0, 3, .inl o_zbound)), (n_timer, .inl (E.2.1 0, 3, .inl o_ztimer)), (n_ranOut, .inl (E.2.1 3, 3, .inl o_zranOut)), (n_halted, .inl (E.2.1 3, 3, .inl o_zhalted)), (n_steps, .inl (E.2.1 0, 3, .inl o_zsteps)), (n_outs, .inl (E.2.1 0, 3, .inl o_zouts)), (n_output, .inl (E.2.1 0, 1500, .inl o_zoutput)), (n_waits, .inl (E.2.1 0, 3, .inl o_zwaits)), (n_typed, .inl (E.2.1 0, 300, .inl o_ztyped)), (n_disk, .inl (E.2.1 0, 384, .inl o_zdisk))]) (BW E A) A) ([.ref n0] : List Value).toArray s 0 0 A) (F0 m 56 ls []) := by
  intro ztaped zat zend zline zlabels zfault zfaultLine zisTold zaddress zmissing zgood zvalue zvalueFrom zvalueSize zme zsize zmemory zregister zmode zpc zbase zbound ztimer zranOut zhalted zsteps zouts zoutput zwaits ztyped zdisk x1 H locs ls h hP hD hS hl
  rw [b_MD_step_56] at h
  refine lv_aload_n J.1 J.2.1 d_MD_step_56 rfl (lv_at hl 0 rfl) ?_
  refine lv_iload_n J.1 J.2.1 d_MD_step_57 rfl (lv_at hl 1 rfl) ?_
  refine lv_iconst (v := 2) J.1 J.2.1 d_MD_step_58 (by decide) ?_
  replace h := g_bd h
  obtain ⟨r_28, q_28, h⟩ := h
  have hq := ct_MD_bad l E n0 n_base n_bound n_depth n_disk n_halted n_isThere n_labelAddress n_labelFrom n_labelSize n_made n_memory n_mode n_output n_outs n_pc n_ranOut n_register n_size n_steps n_tape n_timer n_typed n_waits n_wants H.size ztaped zat zend zline zlabels zfault zfaultLine zisTold zaddress zmissing zgood zvalue zvalueFrom zvalueSize zme zsize zbase zbound x1 2 r_28 q_28
  have hr := jrunV (p := p) (e := e) (below := below) (R := ({ frames := 3, cells := 0, slots := 0, locals := 82 })) (cells := 0) (slots := 0) (As := [.int x1, .int 2]) (rest := []) J hJ hA hZ hP hD hS hq [0, 1, 6, 7] rfl (by decide) gl_MD_270 gi_MD_bad gsel_MD_bad gini_MD gc_MD_bad hd_MD_bad ⟨rfl, rfl, Nat.le_of_ble_eq_true rfl, Nat.le_of_ble_eq_true rfl⟩ rfl rfl hl.1 rfl rfl (Nat.le_of_ble_eq_true rfl) d_MD_step_59 ⟨Nat.zero_le _, Nat.zero_le _⟩
  clear hq
  refine jk_i hr hA hP hD hS [0, 1, 6, 7] [2, 3, 4, 5, 8, 9, 10, 11, 12, 13, 14, 15, 16] (WR := [(n_memory, .inl (E.2.1 0, 3072, .inl zmemory)), (n_register, .inl (E.2.1 0, 24, .inl zregister)), (n_mode, .inl (E.2.1 0, 3, .inl zmode)), (n_pc, .inl (E.2.1 0, 3, .inl zpc)), (n_timer, .inl (E.2.1 0, 3, .inl ztimer)), (n_ranOut, .inl (E.2.1 3, 3, .inl zranOut)), (n_halted, .inl (E.2.1 3, 3, .inl zhalted)), (n_steps, .inl (E.2.1 0, 3, .inl zsteps)), (n_outs, .inl (E.2.1 0, 3, .inl zouts)), (n_output, .inl (E.2.1 0, 1500, .inl zoutput)), (n_waits, .inl (E.2.1 0, 3, .inl zwaits)), (n_typed, .inl (E.2.1 0, 300, .inl ztyped)), (n_disk, .inl (E.2.1 0, 384, .inl zdisk))]) rfl rfl (by decide) (by decide) [13, 14, 0, 1, 2, 3, 15, 16, 4, 5, 6, 7, 8, 9, 10, 11, 12] (WF := [(n0, .inr (6, [.ref n_tape, .int ztaped, .ref n_isThere, .ref n_size, .ref n_depth, .ref n_memory, .ref n_register, .ref n_mode, .ref n_pc, .ref n_base, .ref n_bound, .ref n_timer, .ref n_ranOut, .ref n_halted, .ref n_steps, .ref n_outs, .ref n_output, .ref n_waits, .ref n_typed, .ref n_disk, .ref n_wants, .int zat, .int zend, .int zline, .ref n_labelFrom, .ref n_labelSize, .ref n_labelAddress, .int zlabels, .int zfault, .int zfaultLine, .int zisTold, .int zaddress, .ref n_made, .int zmissing, .int zgood, .int zvalue, .int zvalueFrom, .int zvalueSize, .int zme])), (n_size, .inl (E.2.1 0, 3, .inl zsize)), (n_memory, .inl (E.2.1 0, 3072, .inl zmemory)), (n_register, .inl (E.2.1 0, 24, .inl zregister)), (n_mode, .inl (E.2.1 0, 3, .inl zmode)), (n_pc, .inl (E.2.1 0, 3, .inl zpc)), (n_base, .inl (E.2.1 0, 3, .inl zbase)), (n_bound, .inl (E.2.1 0, 3, .inl zbound)), (n_timer, .inl (E.2.1 0, 3, .inl ztimer)), (n_ranOut, .inl (E.2.1 3, 3, .inl zranOut)), (n_halted, .inl (E.2.1 3, 3, .inl zhalted)), (n_steps, .inl (E.2.1 0, 3, .inl zsteps)), (n_outs, .inl (E.2.1 0, 3, .inl zouts)), (n_output, .inl (E.2.1 0, 1500, .inl zoutput)), (n_waits, .inl (E.2.1 0, 3, .inl zwaits)), (n_typed, .inl (E.2.1 0, 300, .inl ztyped)), (n_disk, .inl (E.2.1 0, 384, .inl zdisk))]) rfl (by decide) ?_
  clear hP hD hS
  intro H locs hP hD hS
  clear hr
  refine lv_istore_n (lv' := [(2, .int r_28), (0, .ref n0), (1, .int x1)]) J.1 J.2.1 d_MD_step_62 rfl hl (by decide) rfl ?_
  clear hl
  intro ls hl
  refine lv_iload_n J.1 J.2.1 d_MD_step_63 rfl (lv_at hl 0 rfl) ?_
  refine lv_if_lt (tgt := 75) J.1 J.2.1 d_MD_step_64 (by decide) (fun c_29 => ?_) (fun c_29 => ?_)
  · replace h := g_t c_29 h
    refine lv_aload_n J.1 J.2.1 d_MD_step_75 rfl (lv_at hl 1 rfl) ?_
    refine lv_iload_n J.1 J.2.1 d_MD_step_76 rfl (lv_at hl 2 rfl) ?_
    replace h := g_bd h
    obtain ⟨r_30, q_30, h⟩ := h
    have hq := ct_MD_get l E n0 n_base n_bound n_depth n_disk n_halted n_isThere n_labelAddress n_labelFrom n_labelSize n_made n_memory n_mode n_output n_outs n_pc n_ranOut n_register n_size n_steps n_tape n_timer n_typed n_waits n_wants H.size ztaped zat zend zline zlabels zfault zfaultLine zisTold zaddress zmissing zgood zvalue zvalueFrom zvalueSize zme zmemory zbase x1 r_30 q_30
    have hr := jrunV (p := p) (e := e) (below := below) (R := ({ frames := 3, cells := 0, slots := 0, locals := 82 })) (cells := 0) (slots := 0) (As := [.int x1]) (rest := []) J hJ hA hZ hP hD hS hq [0, 2, 6] rfl (by decide) gl_MD_273 gi_MD_get gsel_MD_get gini_MD gc_MD_get hd_MD_get ⟨rfl, rfl, Nat.le_of_ble_eq_true rfl, Nat.le_of_ble_eq_true rfl⟩ rfl rfl hl.1 rfl rfl (Nat.le_of_ble_eq_true rfl) d_MD_step_77 ⟨Nat.zero_le _, Nat.zero_le _⟩
    clear hq
    refine jk_i hr hA hP hD hS [0, 2, 6] [1, 3, 4, 5, 7, 8, 9, 10, 11, 12, 13, 14, 15, 16] (WR := [(n_size, .inl (E.2.1 0, 3, .inl zsize)), (n_register, .inl (E.2.1 0, 24, .inl zregister)), (n_mode, .inl (E.2.1 0, 3, .inl zmode)), (n_pc, .inl (E.2.1 0, 3, .inl zpc)), (n_bound, .inl (E.2.1 0, 3, .inl zbound)), (n_timer, .inl (E.2.1 0, 3, .inl ztimer)), (n_ranOut, .inl (E.2.1 3, 3, .inl zranOut)), (n_halted, .inl (E.2.1 3, 3, .inl zhalted)), (n_steps, .inl (E.2.1 0, 3, .inl zsteps)), (n_outs, .inl (E.2.1 0, 3, .inl zouts)), (n_output, .inl (E.2.1 0, 1500, .inl zoutput)), (n_waits, .inl (E.2.1 0, 3, .inl zwaits)), (n_typed, .inl (E.2.1 0, 300, .inl ztyped)), (n_disk, .inl (E.2.1 0, 384, .inl zdisk))]) rfl rfl (by decide) (by decide) [14, 0, 15, 1, 2, 3, 16, 4, 5, 6, 7, 8, 9, 10, 11, 12, 13] (WF := [(n0, .inr (6, [.ref n_tape, .int ztaped, .ref n_isThere, .ref n_size, .ref n_depth, .ref n_memory, .ref n_register, .ref n_mode, .ref n_pc, .ref n_base, .ref n_bound, .ref n_timer, .ref n_ranOut, .ref n_halted, .ref n_steps, .ref n_outs, .ref n_output, .ref n_waits, .ref n_typed, .ref n_disk, .ref n_wants, .int zat, .int zend, .int zline, .ref n_labelFrom, .ref n_labelSize, .ref n_labelAddress, .int zlabels, .int zfault, .int zfaultLine, .int zisTold, .int zaddress, .ref n_made, .int zmissing, .int zgood, .int zvalue, .int zvalueFrom, .int zvalueSize, .int zme])), (n_size, .inl (E.2.1 0, 3, .inl zsize)), (n_memory, .inl (E.2.1 0, 3072, .inl zmemory)), (n_register, .inl (E.2.1 0, 24, .inl zregister)), (n_mode, .inl (E.2.1 0, 3, .inl zmode)), (n_pc, .inl (E.2.1 0, 3, .inl zpc)), (n_base, .inl (E.2.1 0, 3, .inl zbase)), (n_bound, .inl (E.2.1 0, 3, .inl zbound)), (n_timer, .inl (E.2.1 0, 3, .inl ztimer)), (n_ranOut, .inl (E.2.1 3, 3, .inl zranOut)), (n_halted, .inl (E.2.1 3, 3, .inl zhalted)), (n_steps, .inl (E.2.1 0, 3, .inl zsteps)), (n_outs, .inl (E.2.1 0, 3, .inl zouts)), (n_output, .inl (E.2.1 0, 1500, .inl zoutput)), (n_waits, .inl (E.2.1 0, 3, .inl zwaits)), (n_typed, .inl (E.2.1 0, 300, .inl ztyped)), (n_disk, .inl (E.2.1 0, 384, .inl zdisk))]) rfl (by decide) ?_
    clear hP hD hS
    intro H locs hP hD hS
    clear hr
    refine lv_istore_n (lv' := [(3, .int r_30), (2, .int r_28), (0, .ref n0), (1, .int x1)]) J.1 J.2.1 d_MD_step_80 rfl hl (by decide) rfl ?_
    clear hl
    intro ls hl
    refine lv_aload_n J.1 J.2.1 d_MD_step_81 rfl (lv_at hl 2 rfl) ?_
    refine lv_iload_n J.1 J.2.1 d_MD_step_82 rfl (lv_at hl 3 rfl) ?_
    refine lv_iconst (v := 1) J.1 J.2.1 d_MD_step_83 (by decide) ?_
    refine lv_iadd J.1 J.2.1 d_MD_step_84 ?_
    refine lv_ldc (v := 65536) J.1 J.2.1 J.2.2.2.2.1 (J.2.2.2.2.2.1 _ gk_MD_187) d_MD_step_85 ?_
    refine lv_irem J.1 J.2.1 d_MD_step_87 (by decide) ?_
    replace h := g_bd h
    obtain ⟨r_31, q_31, h⟩ := h
    have hq := ct_MD_get l E n0 n_base n_bound n_depth n_disk n_halted n_isThere n_labelAddress n_labelFrom n_labelSize n_made n_memory n_mode n_output n_outs n_pc n_ranOut n_register n_size n_steps n_tape n_timer n_typed n_waits n_wants H.size ztaped zat zend zline zlabels zfault zfaultLine zisTold zaddress zmissing zgood zvalue zvalueFrom zvalueSize zme zmemory zbase ((x1 + 1) - (x1 + 1) / 65536 * 65536) r_31 q_31
    have hr := jrunV (p := p) (e := e) (below := below) (R := ({ frames := 3, cells := 0, slots := 0, locals := 82 })) (cells := 0) (slots := 0) (As := [.int ((x1 + 1) - (x1 + 1) / 65536 * 65536)]) (rest := []) J hJ hA hZ hP hD hS hq [0, 2, 6] rfl (by decide) gl_MD_273 gi_MD_get gsel_MD_get gini_MD gc_MD_get hd_MD_get ⟨rfl, rfl, Nat.le_of_ble_eq_true rfl, Nat.le_of_ble_eq_true rfl⟩ rfl rfl hl.1 rfl rfl (Nat.le_of_ble_eq_true rfl) d_MD_step_88 ⟨Nat.zero_le _, Nat.zero_le _⟩
    clear hq
    refine jk_i hr hA hP hD hS [0, 2, 6] [1, 3, 4, 5, 7, 8, 9, 10, 11, 12, 13, 14, 15, 16] (WR := [(n_size, .inl (E.2.1 0, 3, .inl zsize)), (n_register, .inl (E.2.1 0, 24, .inl zregister)), (n_mode, .inl (E.2.1 0, 3, .inl zmode)), (n_pc, .inl (E.2.1 0, 3, .inl zpc)), (n_bound, .inl (E.2.1 0, 3, .inl zbound)), (n_timer, .inl (E.2.1 0, 3, .inl ztimer)), (n_ranOut, .inl (E.2.1 3, 3, .inl zranOut)), (n_halted, .inl (E.2.1 3, 3, .inl zhalted)), (n_steps, .inl (E.2.1 0, 3, .inl zsteps)), (n_outs, .inl (E.2.1 0, 3, .inl zouts)), (n_output, .inl (E.2.1 0, 1500, .inl zoutput)), (n_waits, .inl (E.2.1 0, 3, .inl zwaits)), (n_typed, .inl (E.2.1 0, 300, .inl ztyped)), (n_disk, .inl (E.2.1 0, 384, .inl zdisk))]) rfl rfl (by decide) (by decide) [14, 0, 15, 1, 2, 3, 16, 4, 5, 6, 7, 8, 9, 10, 11, 12, 13] (WF := [(n0, .inr (6, [.ref n_tape, .int ztaped, .ref n_isThere, .ref n_size, .ref n_depth, .ref n_memory, .ref n_register, .ref n_mode, .ref n_pc, .ref n_base, .ref n_bound, .ref n_timer, .ref n_ranOut, .ref n_halted, .ref n_steps, .ref n_outs, .ref n_output, .ref n_waits, .ref n_typed, .ref n_disk, .ref n_wants, .int zat, .int zend, .int zline, .ref n_labelFrom, .ref n_labelSize, .ref n_labelAddress, .int zlabels, .int zfault, .int zfaultLine, .int zisTold, .int zaddress, .ref n_made, .int zmissing, .int zgood, .int zvalue, .int zvalueFrom, .int zvalueSize, .int zme])), (n_size, .inl (E.2.1 0, 3, .inl zsize)), (n_memory, .inl (E.2.1 0, 3072, .inl zmemory)), (n_register, .inl (E.2.1 0, 24, .inl zregister)), (n_mode, .inl (E.2.1 0, 3, .inl zmode)), (n_pc, .inl (E.2.1 0, 3, .inl zpc)), (n_base, .inl (E.2.1 0, 3, .inl zbase)), (n_bound, .inl (E.2.1 0, 3, .inl zbound)), (n_timer, .inl (E.2.1 0, 3, .inl ztimer)), (n_ranOut, .inl (E.2.1 3, 3, .inl zranOut)), (n_halted, .inl (E.2.1 3, 3, .inl zhalted)), (n_steps, .inl (E.2.1 0, 3, .inl zsteps)), (n_outs, .inl (E.2.1 0, 3, .inl zouts)), (n_output, .inl (E.2.1 0, 1500, .inl zoutput)), (n_waits, .inl (E.2.1 0, 3, .inl zwaits)), (n_typed, .inl (E.2.1 0, 300, .inl ztyped)), (n_disk, .inl (E.2.1 0, 384, .inl zdisk))]) rfl (by decide) ?_
    clear hP hD hS
    intro H locs hP hD hS
    clear hr
    refine lv_istore (lv' := [(4, .int r_31), (3, .int r_30), (2, .int r_28), (0, .ref n0), (1, .int x1)]) J.1 J.2.1 d_MD_step_91 hl (by decide) rfl ?_
    clear hl
    intro ls hl
    refine lv_iload_n J.1 J.2.1 d_MD_step_93 rfl (lv_at hl 1 rfl) ?_
    refine lv_bipush (v := 64) J.1 J.2.1 d_MD_step_94 (by decide) ?_
    refine lv_idiv J.1 J.2.1 d_MD_step_96 (by decide) ?_
    refine lv_istore (lv' := [(5, .int (r_30 / 64)), (4, .int r_31), (3, .int r_30), (2, .int r_28), (0, .ref n0), (1, .int x1)]) J.1 J.2.1 d_MD_step_97 hl (by decide) rfl ?_
    clear hl
    intro ls hl
    refine lv_iload J.1 J.2.1 d_MD_step_99 (lv_at hl 0 rfl) ?_
    refine lv_bipush (v := 24) J.1 J.2.1 d_MD_step_101 (by decide) ?_
    refine lv_icmp_le (tgt := 114) J.1 J.2.1 d_MD_step_103 (by decide) (fun c_32 => ?_) (fun c_32 => ?_)
    · replace h := g_t c_32 h
      refine lv_aload_n J.1 J.2.1 d_MD_step_114 rfl (lv_at hl 4 rfl) ?_
      refine jg J hJ hP 0 rfl rfl i_MD 7 (by decide) gf_MD_38 rfl d_MD_step_115 ?_
      refine lv_aload_n J.1 J.2.1 d_MD_step_118 rfl (lv_at hl 4 rfl) ?_
      refine jg J hJ hP 0 rfl rfl i_MD 38 (by decide) gf_MD_261 rfl d_MD_step_119 ?_
      replace h := g_ck h
      obtain ⟨k_33, h⟩ := h
      refine jai J hJ hP 4 rfl k_33 d_MD_step_122 ?_
      refine lv_iconst (v := 1) J.1 J.2.1 d_MD_step_123 (by decide) ?_
      refine lv_icmp_ne (tgt := 147) J.1 J.2.1 d_MD_step_124 (by decide) (fun c_34 => ?_) (fun c_34 => ?_)
      · replace h := g_f c_34 h
        exact kb_MD_step_147 J hJ hA hZ _ _ _ _ _ _ _ _ _ _ _ _ _ _ _ _ _ _ _ _ _ _ _ _ _ _ _ _ _ _ _ _ _ _ _ _ _ _ h hP hD hS (lv_sub hl [4, 5, 2, 1, 0] rfl)
      · replace h := g_t c_34 h
        refine lv_iload J.1 J.2.1 d_MD_step_127 (lv_at hl 0 rfl) ?_
        refine lv_if_eq (tgt := 139) J.1 J.2.1 d_MD_step_129 (by decide) (fun c_35 => ?_) (fun c_35 => ?_)
        · replace h := g_t c_35 h
          refine lv_aload_n J.1 J.2.1 d_MD_step_139 rfl (lv_at hl 4 rfl) ?_
          refine lv_iconst (v := 1) J.1 J.2.1 d_MD_step_140 (by decide) ?_
          refine lv_iload_n J.1 J.2.1 d_MD_step_141 rfl (lv_at hl 2 rfl) ?_
          refine lv_iload_n J.1 J.2.1 d_MD_step_142 rfl (lv_at hl 5 rfl) ?_
          replace h := g_bd h
          obtain ⟨⟨zmemory_36, zmode_36, zpc_36, zbase_36, zbound_36, zranOut_36⟩, q_36, h⟩ := h
          try dsimp only at h
          have hq := ct_MD_trap l E n0 n_base n_bound n_depth n_disk n_halted n_isThere n_labelAddress n_labelFrom n_labelSize n_made n_memory n_mode n_output n_outs n_pc n_ranOut n_register n_size n_steps n_tape n_timer n_typed n_waits n_wants H.size ztaped zat zend zline zlabels zfault zfaultLine zisTold zaddress zmissing zgood zvalue zvalueFrom zvalueSize zme zmemory zmode zpc zbase zbound zranOut 1 r_30 x1 zmemory_36 zmode_36 zpc_36 zbase_36 zbound_36 zranOut_36 q_36
          have hr := jrunV (p := p) (e := e) (below := below) (R := ({ frames := 3, cells := 0, slots := 0, locals := 82 })) (cells := 0) (slots := 0) (As := [.int 1, .int r_30, .int x1]) (rest := []) J hJ hA hZ hP hD hS hq [0, 2, 4, 5, 6, 7, 9] rfl (by decide) gl_MD_267 gi_MD_trap gsel_MD_trap gini_MD gc_MD_trap hd_MD_trap ⟨rfl, rfl, Nat.le_of_ble_eq_true rfl, Nat.le_of_ble_eq_true rfl⟩ rfl rfl hl.1 rfl rfl (Nat.le_of_ble_eq_true rfl) d_MD_step_143 ⟨Nat.zero_le _, Nat.zero_le _⟩
          clear hq
          refine jk_v hr hA hP hD hS [0, 2, 4, 5, 6, 7, 9] [1, 3, 8, 10, 11, 12, 13, 14, 15, 16] (WR := [(n_size, .inl (E.2.1 0, 3, .inl zsize)), (n_register, .inl (E.2.1 0, 24, .inl zregister)), (n_timer, .inl (E.2.1 0, 3, .inl ztimer)), (n_halted, .inl (E.2.1 3, 3, .inl zhalted)), (n_steps, .inl (E.2.1 0, 3, .inl zsteps)), (n_outs, .inl (E.2.1 0, 3, .inl zouts)), (n_output, .inl (E.2.1 0, 1500, .inl zoutput)), (n_waits, .inl (E.2.1 0, 3, .inl zwaits)), (n_typed, .inl (E.2.1 0, 300, .inl ztyped)), (n_disk, .inl (E.2.1 0, 384, .inl zdisk))]) rfl rfl (by decide) (by decide) [10, 0, 11, 1, 12, 13, 14, 15, 2, 16, 3, 4, 5, 6, 7, 8, 9] (WF := [(n0, .inr (6, [.ref n_tape, .int ztaped, .ref n_isThere, .ref n_size, .ref n_depth, .ref n_memory, .ref n_register, .ref n_mode, .ref n_pc, .ref n_base, .ref n_bound, .ref n_timer, .ref n_ranOut, .ref n_halted, .ref n_steps, .ref n_outs, .ref n_output, .ref n_waits, .ref n_typed, .ref n_disk, .ref n_wants, .int zat, .int zend, .int zline, .ref n_labelFrom, .ref n_labelSize, .ref n_labelAddress, .int zlabels, .int zfault, .int zfaultLine, .int zisTold, .int zaddress, .ref n_made, .int zmissing, .int zgood, .int zvalue, .int zvalueFrom, .int zvalueSize, .int zme])), (n_size, .inl (E.2.1 0, 3, .inl zsize)), (n_memory, .inl (E.2.1 0, 3072, .inl zmemory_36)), (n_register, .inl (E.2.1 0, 24, .inl zregister)), (n_mode, .inl (E.2.1 0, 3, .inl zmode_36)), (n_pc, .inl (E.2.1 0, 3, .inl zpc_36)), (n_base, .inl (E.2.1 0, 3, .inl zbase_36)), (n_bound, .inl (E.2.1 0, 3, .inl zbound_36)), (n_timer, .inl (E.2.1 0, 3, .inl ztimer)), (n_ranOut, .inl (E.2.1 3, 3, .inl zranOut_36)), (n_halted, .inl (E.2.1 3, 3, .inl zhalted)), (n_steps, .inl (E.2.1 0, 3, .inl zsteps)), (n_outs, .inl (E.2.1 0, 3, .inl zouts)), (n_output, .inl (E.2.1 0, 1500, .inl zoutput)), (n_waits, .inl (E.2.1 0, 3, .inl zwaits)), (n_typed, .inl (E.2.1 0, 300, .inl ztyped)), (n_disk, .inl (E.2.1 0, 384, .inl zdisk))]) rfl (by decide) ?_
          clear hP hD hS
          intro H locs hP hD hS
          clear hr
          have h := Option.some.inj h
          have e_0 := (Prod.mk.inj h).1
          have h := (Prod.mk.inj h).2
          have e_1 := (Prod.mk.inj h).1
          have h := (Prod.mk.inj h).2
          have e_2 := (Prod.mk.inj h).1
          have h := (Prod.mk.inj h).2
          have e_3 := (Prod.mk.inj h).1
          have h := (Prod.mk.inj h).2
          have e_4 := (Prod.mk.inj h).1
          have h := (Prod.mk.inj h).2
          have e_5 := (Prod.mk.inj h).1
          have h := (Prod.mk.inj h).2
          have e_6 := (Prod.mk.inj h).1
          have h := (Prod.mk.inj h).2
          have e_7 := (Prod.mk.inj h).1
          have h := (Prod.mk.inj h).2
          have e_8 := (Prod.mk.inj h).1
          have h := (Prod.mk.inj h).2
          have e_9 := (Prod.mk.inj h).1
          have h := (Prod.mk.inj h).2
          have e_10 := (Prod.mk.inj h).1
          have h := (Prod.mk.inj h).2
          have e_11 := (Prod.mk.inj h).1
          have h := (Prod.mk.inj h).2
          have e_12 := (Prod.mk.inj h).1
          have h := (Prod.mk.inj h).2
          have e_13 := (Prod.mk.inj h).1
          have h := (Prod.mk.inj h).2
          rw [← e_0, ← e_1, ← e_2, ← e_3, ← e_4, ← e_5, ← e_6, ← e_7, ← e_8, ← e_9, ← e_10, ← e_11, ← e_12, ← e_13, ← h]
          exact jr_v J hS hP hD d_MD_step_146
        · replace h := g_f c_35 h
          refine lv_iload J.1 J.2.1 d_MD_step_132 (lv_at hl 0 rfl) ?_
          refine lv_bipush (v := 16) J.1 J.2.1 d_MD_step_134 (by decide) ?_
          refine lv_icmp_le (tgt := 147) J.1 J.2.1 d_MD_step_136 (by decide) (fun c_37 => ?_) (fun c_37 => ?_)
          · replace h := g_t c_37 h
            exact kb_MD_step_147 J hJ hA hZ _ _ _ _ _ _ _ _ _ _ _ _ _ _ _ _ _ _ _ _ _ _ _ _ _ _ _ _ _ _ _ _ _ _ _ _ _ _ h hP hD hS (lv_sub hl [4, 5, 2, 1, 0] rfl)
          · replace h := g_f c_37 h
            refine lv_aload_n J.1 J.2.1 d_MD_step_139 rfl (lv_at hl 4 rfl) ?_
            refine lv_iconst (v := 1) J.1 J.2.1 d_MD_step_140 (by decide) ?_
            refine lv_iload_n J.1 J.2.1 d_MD_step_141 rfl (lv_at hl 2 rfl) ?_
            refine lv_iload_n J.1 J.2.1 d_MD_step_142 rfl (lv_at hl 5 rfl) ?_
            replace h := g_bd h
            obtain ⟨⟨zmemory_38, zmode_38, zpc_38, zbase_38, zbound_38, zranOut_38⟩, q_38, h⟩ := h
            try dsimp only at h
            have hq := ct_MD_trap l E n0 n_base n_bound n_depth n_disk n_halted n_isThere n_labelAddress n_labelFrom n_labelSize n_made n_memory n_mode n_output n_outs n_pc n_ranOut n_register n_size n_steps n_tape n_timer n_typed n_waits n_wants H.size ztaped zat zend zline zlabels zfault zfaultLine zisTold zaddress zmissing zgood zvalue zvalueFrom zvalueSize zme zmemory zmode zpc zbase zbound zranOut 1 r_30 x1 zmemory_38 zmode_38 zpc_38 zbase_38 zbound_38 zranOut_38 q_38
            have hr := jrunV (p := p) (e := e) (below := below) (R := ({ frames := 3, cells := 0, slots := 0, locals := 82 })) (cells := 0) (slots := 0) (As := [.int 1, .int r_30, .int x1]) (rest := []) J hJ hA hZ hP hD hS hq [0, 2, 4, 5, 6, 7, 9] rfl (by decide) gl_MD_267 gi_MD_trap gsel_MD_trap gini_MD gc_MD_trap hd_MD_trap ⟨rfl, rfl, Nat.le_of_ble_eq_true rfl, Nat.le_of_ble_eq_true rfl⟩ rfl rfl hl.1 rfl rfl (Nat.le_of_ble_eq_true rfl) d_MD_step_143 ⟨Nat.zero_le _, Nat.zero_le _⟩
            clear hq
            refine jk_v hr hA hP hD hS [0, 2, 4, 5, 6, 7, 9] [1, 3, 8, 10, 11, 12, 13, 14, 15, 16] (WR := [(n_size, .inl (E.2.1 0, 3, .inl zsize)), (n_register, .inl (E.2.1 0, 24, .inl zregister)), (n_timer, .inl (E.2.1 0, 3, .inl ztimer)), (n_halted, .inl (E.2.1 3, 3, .inl zhalted)), (n_steps, .inl (E.2.1 0, 3, .inl zsteps)), (n_outs, .inl (E.2.1 0, 3, .inl zouts)), (n_output, .inl (E.2.1 0, 1500, .inl zoutput)), (n_waits, .inl (E.2.1 0, 3, .inl zwaits)), (n_typed, .inl (E.2.1 0, 300, .inl ztyped)), (n_disk, .inl (E.2.1 0, 384, .inl zdisk))]) rfl rfl (by decide) (by decide) [10, 0, 11, 1, 12, 13, 14, 15, 2, 16, 3, 4, 5, 6, 7, 8, 9] (WF := [(n0, .inr (6, [.ref n_tape, .int ztaped, .ref n_isThere, .ref n_size, .ref n_depth, .ref n_memory, .ref n_register, .ref n_mode, .ref n_pc, .ref n_base, .ref n_bound, .ref n_timer, .ref n_ranOut, .ref n_halted, .ref n_steps, .ref n_outs, .ref n_output, .ref n_waits, .ref n_typed, .ref n_disk, .ref n_wants, .int zat, .int zend, .int zline, .ref n_labelFrom, .ref n_labelSize, .ref n_labelAddress, .int zlabels, .int zfault, .int zfaultLine, .int zisTold, .int zaddress, .ref n_made, .int zmissing, .int zgood, .int zvalue, .int zvalueFrom, .int zvalueSize, .int zme])), (n_size, .inl (E.2.1 0, 3, .inl zsize)), (n_memory, .inl (E.2.1 0, 3072, .inl zmemory_38)), (n_register, .inl (E.2.1 0, 24, .inl zregister)), (n_mode, .inl (E.2.1 0, 3, .inl zmode_38)), (n_pc, .inl (E.2.1 0, 3, .inl zpc_38)), (n_base, .inl (E.2.1 0, 3, .inl zbase_38)), (n_bound, .inl (E.2.1 0, 3, .inl zbound_38)), (n_timer, .inl (E.2.1 0, 3, .inl ztimer)), (n_ranOut, .inl (E.2.1 3, 3, .inl zranOut_38)), (n_halted, .inl (E.2.1 3, 3, .inl zhalted)), (n_steps, .inl (E.2.1 0, 3, .inl zsteps)), (n_outs, .inl (E.2.1 0, 3, .inl zouts)), (n_output, .inl (E.2.1 0, 1500, .inl zoutput)), (n_waits, .inl (E.2.1 0, 3, .inl zwaits)), (n_typed, .inl (E.2.1 0, 300, .inl ztyped)), (n_disk, .inl (E.2.1 0, 384, .inl zdisk))]) rfl (by decide) ?_
            clear hP hD hS
            intro H locs hP hD hS
            clear hr
            have h := Option.some.inj h
            have e_0 := (Prod.mk.inj h).1
            have h := (Prod.mk.inj h).2
            have e_1 := (Prod.mk.inj h).1
            have h := (Prod.mk.inj h).2
            have e_2 := (Prod.mk.inj h).1
            have h := (Prod.mk.inj h).2
            have e_3 := (Prod.mk.inj h).1
            have h := (Prod.mk.inj h).2
            have e_4 := (Prod.mk.inj h).1
            have h := (Prod.mk.inj h).2
            have e_5 := (Prod.mk.inj h).1
            have h := (Prod.mk.inj h).2
            have e_6 := (Prod.mk.inj h).1
            have h := (Prod.mk.inj h).2
            have e_7 := (Prod.mk.inj h).1
            have h := (Prod.mk.inj h).2
            have e_8 := (Prod.mk.inj h).1
            have h := (Prod.mk.inj h).2
            have e_9 := (Prod.mk.inj h).1
            have h := (Prod.mk.inj h).2
            have e_10 := (Prod.mk.inj h).1
            have h := (Prod.mk.inj h).2
            have e_11 := (Prod.mk.inj h).1
            have h := (Prod.mk.inj h).2
            have e_12 := (Prod.mk.inj h).1
            have h := (Prod.mk.inj h).2
            have e_13 := (Prod.mk.inj h).1
            have h := (Prod.mk.inj h).2
            rw [← e_0, ← e_1, ← e_2, ← e_3, ← e_4, ← e_5, ← e_6, ← e_7, ← e_8, ← e_9, ← e_10, ← e_11, ← e_12, ← e_13, ← h]
            exact jr_v J hS hP hD d_MD_step_146
    · replace h := g_f c_32 h
      refine lv_aload_n J.1 J.2.1 d_MD_step_106 rfl (lv_at hl 4 rfl) ?_
      refine lv_iconst (v := 5) J.1 J.2.1 d_MD_step_107 (by decide) ?_
      refine lv_iload_n J.1 J.2.1 d_MD_step_108 rfl (lv_at hl 2 rfl) ?_
      refine lv_iload_n J.1 J.2.1 d_MD_step_109 rfl (lv_at hl 5 rfl) ?_
      replace h := g_bd h
      obtain ⟨⟨zmemory_39, zmode_39, zpc_39, zbase_39, zbound_39, zranOut_39⟩, q_39, h⟩ := h
      try dsimp only at h
      have hq := ct_MD_trap l E n0 n_base n_bound n_depth n_disk n_halted n_isThere n_labelAddress n_labelFrom n_labelSize n_made n_memory n_mode n_output n_outs n_pc n_ranOut n_register n_size n_steps n_tape n_timer n_typed n_waits n_wants H.size ztaped zat zend zline zlabels zfault zfaultLine zisTold zaddress zmissing zgood zvalue zvalueFrom zvalueSize zme zmemory zmode zpc zbase zbound zranOut 5 r_30 x1 zmemory_39 zmode_39 zpc_39 zbase_39 zbound_39 zranOut_39 q_39
      have hr := jrunV (p := p) (e := e) (below := below) (R := ({ frames := 3, cells := 0, slots := 0, locals := 82 })) (cells := 0) (slots := 0) (As := [.int 5, .int r_30, .int x1]) (rest := []) J hJ hA hZ hP hD hS hq [0, 2, 4, 5, 6, 7, 9] rfl (by decide) gl_MD_267 gi_MD_trap gsel_MD_trap gini_MD gc_MD_trap hd_MD_trap ⟨rfl, rfl, Nat.le_of_ble_eq_true rfl, Nat.le_of_ble_eq_true rfl⟩ rfl rfl hl.1 rfl rfl (Nat.le_of_ble_eq_true rfl) d_MD_step_110 ⟨Nat.zero_le _, Nat.zero_le _⟩
      clear hq
      refine jk_v hr hA hP hD hS [0, 2, 4, 5, 6, 7, 9] [1, 3, 8, 10, 11, 12, 13, 14, 15, 16] (WR := [(n_size, .inl (E.2.1 0, 3, .inl zsize)), (n_register, .inl (E.2.1 0, 24, .inl zregister)), (n_timer, .inl (E.2.1 0, 3, .inl ztimer)), (n_halted, .inl (E.2.1 3, 3, .inl zhalted)), (n_steps, .inl (E.2.1 0, 3, .inl zsteps)), (n_outs, .inl (E.2.1 0, 3, .inl zouts)), (n_output, .inl (E.2.1 0, 1500, .inl zoutput)), (n_waits, .inl (E.2.1 0, 3, .inl zwaits)), (n_typed, .inl (E.2.1 0, 300, .inl ztyped)), (n_disk, .inl (E.2.1 0, 384, .inl zdisk))]) rfl rfl (by decide) (by decide) [10, 0, 11, 1, 12, 13, 14, 15, 2, 16, 3, 4, 5, 6, 7, 8, 9] (WF := [(n0, .inr (6, [.ref n_tape, .int ztaped, .ref n_isThere, .ref n_size, .ref n_depth, .ref n_memory, .ref n_register, .ref n_mode, .ref n_pc, .ref n_base, .ref n_bound, .ref n_timer, .ref n_ranOut, .ref n_halted, .ref n_steps, .ref n_outs, .ref n_output, .ref n_waits, .ref n_typed, .ref n_disk, .ref n_wants, .int zat, .int zend, .int zline, .ref n_labelFrom, .ref n_labelSize, .ref n_labelAddress, .int zlabels, .int zfault, .int zfaultLine, .int zisTold, .int zaddress, .ref n_made, .int zmissing, .int zgood, .int zvalue, .int zvalueFrom, .int zvalueSize, .int zme])), (n_size, .inl (E.2.1 0, 3, .inl zsize)), (n_memory, .inl (E.2.1 0, 3072, .inl zmemory_39)), (n_register, .inl (E.2.1 0, 24, .inl zregister)), (n_mode, .inl (E.2.1 0, 3, .inl zmode_39)), (n_pc, .inl (E.2.1 0, 3, .inl zpc_39)), (n_base, .inl (E.2.1 0, 3, .inl zbase_39)), (n_bound, .inl (E.2.1 0, 3, .inl zbound_39)), (n_timer, .inl (E.2.1 0, 3, .inl ztimer)), (n_ranOut, .inl (E.2.1 3, 3, .inl zranOut_39)), (n_halted, .inl (E.2.1 3, 3, .inl zhalted)), (n_steps, .inl (E.2.1 0, 3, .inl zsteps)), (n_outs, .inl (E.2.1 0, 3, .inl zouts)), (n_output, .inl (E.2.1 0, 1500, .inl zoutput)), (n_waits, .inl (E.2.1 0, 3, .inl zwaits)), (n_typed, .inl (E.2.1 0, 300, .inl ztyped)), (n_disk, .inl (E.2.1 0, 384, .inl zdisk))]) rfl (by decide) ?_
      clear hP hD hS
      intro H locs hP hD hS
      clear hr
      have h := Option.some.inj h
      have e_0 := (Prod.mk.inj h).1
      have h := (Prod.mk.inj h).2
      have e_1 := (Prod.mk.inj h).1
      have h := (Prod.mk.inj h).2
      have e_2 := (Prod.mk.inj h).1
      have h := (Prod.mk.inj h).2
      have e_3 := (Prod.mk.inj h).1
      have h := (Prod.mk.inj h).2
      have e_4 := (Prod.mk.inj h).1
      have h := (Prod.mk.inj h).2
      have e_5 := (Prod.mk.inj h).1
      have h := (Prod.mk.inj h).2
      have e_6 := (Prod.mk.inj h).1
      have h := (Prod.mk.inj h).2
      have e_7 := (Prod.mk.inj h).1
      have h := (Prod.mk.inj h).2
      have e_8 := (Prod.mk.inj h).1
      have h := (Prod.mk.inj h).2
      have e_9 := (Prod.mk.inj h).1
      have h := (Prod.mk.inj h).2
      have e_10 := (Prod.mk.inj h).1
      have h := (Prod.mk.inj h).2
      have e_11 := (Prod.mk.inj h).1
      have h := (Prod.mk.inj h).2
      have e_12 := (Prod.mk.inj h).1
      have h := (Prod.mk.inj h).2
      have e_13 := (Prod.mk.inj h).1
      have h := (Prod.mk.inj h).2
      rw [← e_0, ← e_1, ← e_2, ← e_3, ← e_4, ← e_5, ← e_6, ← e_7, ← e_8, ← e_9, ← e_10, ← e_11, ← e_12, ← e_13, ← h]
      exact jr_v J hS hP hD d_MD_step_113
  · replace h := g_f c_29 h
    refine lv_aload_n J.1 J.2.1 d_MD_step_67 rfl (lv_at hl 1 rfl) ?_
    refine lv_iconst (v := 2) J.1 J.2.1 d_MD_step_68 (by decide) ?_
    refine lv_iload_n J.1 J.2.1 d_MD_step_69 rfl (lv_at hl 0 rfl) ?_
    refine lv_iload_n J.1 J.2.1 d_MD_step_70 rfl (lv_at hl 2 rfl) ?_
    replace h := g_bd h
    obtain ⟨⟨zmemory_40, zmode_40, zpc_40, zbase_40, zbound_40, zranOut_40⟩, q_40, h⟩ := h
    try dsimp only at h
    have hq := ct_MD_trap l E n0 n_base n_bound n_depth n_disk n_halted n_isThere n_labelAddress n_labelFrom n_labelSize n_made n_memory n_mode n_output n_outs n_pc n_ranOut n_register n_size n_steps n_tape n_timer n_typed n_waits n_wants H.size ztaped zat zend zline zlabels zfault zfaultLine zisTold zaddress zmissing zgood zvalue zvalueFrom zvalueSize zme zmemory zmode zpc zbase zbound zranOut 2 r_28 x1 zmemory_40 zmode_40 zpc_40 zbase_40 zbound_40 zranOut_40 q_40
    have hr := jrunV (p := p) (e := e) (below := below) (R := ({ frames := 3, cells := 0, slots := 0, locals := 82 })) (cells := 0) (slots := 0) (As := [.int 2, .int r_28, .int x1]) (rest := []) J hJ hA hZ hP hD hS hq [0, 2, 4, 5, 6, 7, 9] rfl (by decide) gl_MD_267 gi_MD_trap gsel_MD_trap gini_MD gc_MD_trap hd_MD_trap ⟨rfl, rfl, Nat.le_of_ble_eq_true rfl, Nat.le_of_ble_eq_true rfl⟩ rfl rfl hl.1 rfl rfl (Nat.le_of_ble_eq_true rfl) d_MD_step_71 ⟨Nat.zero_le _, Nat.zero_le _⟩
    clear hq
    refine jk_v hr hA hP hD hS [0, 2, 4, 5, 6, 7, 9] [1, 3, 8, 10, 11, 12, 13, 14, 15, 16] (WR := [(n_size, .inl (E.2.1 0, 3, .inl zsize)), (n_register, .inl (E.2.1 0, 24, .inl zregister)), (n_timer, .inl (E.2.1 0, 3, .inl ztimer)), (n_halted, .inl (E.2.1 3, 3, .inl zhalted)), (n_steps, .inl (E.2.1 0, 3, .inl zsteps)), (n_outs, .inl (E.2.1 0, 3, .inl zouts)), (n_output, .inl (E.2.1 0, 1500, .inl zoutput)), (n_waits, .inl (E.2.1 0, 3, .inl zwaits)), (n_typed, .inl (E.2.1 0, 300, .inl ztyped)), (n_disk, .inl (E.2.1 0, 384, .inl zdisk))]) rfl rfl (by decide) (by decide) [10, 0, 11, 1, 12, 13, 14, 15, 2, 16, 3, 4, 5, 6, 7, 8, 9] (WF := [(n0, .inr (6, [.ref n_tape, .int ztaped, .ref n_isThere, .ref n_size, .ref n_depth, .ref n_memory, .ref n_register, .ref n_mode, .ref n_pc, .ref n_base, .ref n_bound, .ref n_timer, .ref n_ranOut, .ref n_halted, .ref n_steps, .ref n_outs, .ref n_output, .ref n_waits, .ref n_typed, .ref n_disk, .ref n_wants, .int zat, .int zend, .int zline, .ref n_labelFrom, .ref n_labelSize, .ref n_labelAddress, .int zlabels, .int zfault, .int zfaultLine, .int zisTold, .int zaddress, .ref n_made, .int zmissing, .int zgood, .int zvalue, .int zvalueFrom, .int zvalueSize, .int zme])), (n_size, .inl (E.2.1 0, 3, .inl zsize)), (n_memory, .inl (E.2.1 0, 3072, .inl zmemory_40)), (n_register, .inl (E.2.1 0, 24, .inl zregister)), (n_mode, .inl (E.2.1 0, 3, .inl zmode_40)), (n_pc, .inl (E.2.1 0, 3, .inl zpc_40)), (n_base, .inl (E.2.1 0, 3, .inl zbase_40)), (n_bound, .inl (E.2.1 0, 3, .inl zbound_40)), (n_timer, .inl (E.2.1 0, 3, .inl ztimer)), (n_ranOut, .inl (E.2.1 3, 3, .inl zranOut_40)), (n_halted, .inl (E.2.1 3, 3, .inl zhalted)), (n_steps, .inl (E.2.1 0, 3, .inl zsteps)), (n_outs, .inl (E.2.1 0, 3, .inl zouts)), (n_output, .inl (E.2.1 0, 1500, .inl zoutput)), (n_waits, .inl (E.2.1 0, 3, .inl zwaits)), (n_typed, .inl (E.2.1 0, 300, .inl ztyped)), (n_disk, .inl (E.2.1 0, 384, .inl zdisk))]) rfl (by decide) ?_
    clear hP hD hS
    intro H locs hP hD hS
    clear hr
    have h := Option.some.inj h
    have e_0 := (Prod.mk.inj h).1
    have h := (Prod.mk.inj h).2
    have e_1 := (Prod.mk.inj h).1
    have h := (Prod.mk.inj h).2
    have e_2 := (Prod.mk.inj h).1
    have h := (Prod.mk.inj h).2
    have e_3 := (Prod.mk.inj h).1
    have h := (Prod.mk.inj h).2
    have e_4 := (Prod.mk.inj h).1
    have h := (Prod.mk.inj h).2
    have e_5 := (Prod.mk.inj h).1
    have h := (Prod.mk.inj h).2
    have e_6 := (Prod.mk.inj h).1
    have h := (Prod.mk.inj h).2
    have e_7 := (Prod.mk.inj h).1
    have h := (Prod.mk.inj h).2
    have e_8 := (Prod.mk.inj h).1
    have h := (Prod.mk.inj h).2
    have e_9 := (Prod.mk.inj h).1
    have h := (Prod.mk.inj h).2
    have e_10 := (Prod.mk.inj h).1
    have h := (Prod.mk.inj h).2
    have e_11 := (Prod.mk.inj h).1
    have h := (Prod.mk.inj h).2
    have e_12 := (Prod.mk.inj h).1
    have h := (Prod.mk.inj h).2
    have e_13 := (Prod.mk.inj h).1
    have h := (Prod.mk.inj h).2
    rw [← e_0, ← e_1, ← e_2, ← e_3, ← e_4, ← e_5, ← e_6, ← e_7, ← e_8, ← e_9, ← e_10, ← e_11, ← e_12, ← e_13, ← h]
    exact jr_v J hS hP hD d_MD_step_74
set_option maxHeartbeats 4000000 in
set_option maxRecDepth 100000 in
theorem ct_MD_step (l : Launch) (E : jz_E) (n0 n_base n_bound n_depth n_disk n_halted n_isThere n_labelAddress n_labelFrom n_labelSize n_made n_memory n_mode n_output n_outs n_pc n_ranOut n_register n_size n_steps n_tape n_timer n_typed n_waits n_wants : Nat) (sz : Nat) (ztaped : Int32) (zat : Int32) (zend : Int32) (zline : Int32) (zlabels : Int32) (zfault : Int32) (zfaultLine : Int32) (zisTold : Int32) (zaddress : Int32) (zmissing : Int32) (zgood : Int32) (zvalue : Int32) (zvalueFrom : Int32) (zvalueSize : Int32) (zme : Int32) (zsize : Nat → Int32) (zmemory : Nat → Int32) (zregister : Nat → Int32) (zmode : Nat → Int32) (zpc : Nat → Int32) (zbase : Nat → Int32) (zbound : Nat → Int32) (ztimer : Nat → Int32) (zranOut : Nat → Int32) (zhalted : Nat → Int32) (zsteps : Nat → Int32) (zouts : Nat → Int32) (zoutput : Nat → Int32) (zwaits : Nat → Int32) (ztyped : Nat → Int32) (zdisk : Nat → Int32) (o_zmemory : Nat → Int32) (o_zregister : Nat → Int32) (o_zmode : Nat → Int32) (o_zpc : Nat → Int32) (o_zbase : Nat → Int32) (o_zbound : Nat → Int32) (o_ztimer : Nat → Int32) (o_zranOut : Nat → Int32) (o_zhalted : Nat → Int32) (o_zsteps : Nat → Int32) (o_zouts : Nat → Int32) (o_zoutput : Nat → Int32) (o_zwaits : Nat → Int32) (o_ztyped : Nat → Int32) (o_zdisk : Nat → Int32)  (h : f_MD_step zme zsize zmemory zregister zmode zpc zbase zbound ztimer zranOut zhalted zsteps zouts zoutput zwaits ztyped zdisk = some (o_zmemory, o_zregister, o_zmode, o_zpc, o_zbase, o_zbound, o_ztimer, o_zranOut, o_zhalted, o_zsteps, o_zouts, o_zoutput, o_zwaits, o_ztyped, o_zdisk)) : CTv l E y_MD_step c_MD_step 9 none ({ frames := 3, cells := 0, slots := 0, locals := 82 }) [.ref n0] [(n0, .inr (6, [.ref n_tape, .int ztaped, .ref n_isThere, .ref n_size, .ref n_depth, .ref n_memory, .ref n_register, .ref n_mode, .ref n_pc, .ref n_base, .ref n_bound, .ref n_timer, .ref n_ranOut, .ref n_halted, .ref n_steps, .ref n_outs, .ref n_output, .ref n_waits, .ref n_typed, .ref n_disk, .ref n_wants, .int zat, .int zend, .int zline, .ref n_labelFrom, .ref n_labelSize, .ref n_labelAddress, .int zlabels, .int zfault, .int zfaultLine, .int zisTold, .int zaddress, .ref n_made, .int zmissing, .int zgood, .int zvalue, .int zvalueFrom, .int zvalueSize, .int zme])), (n_size, .inl (E.2.1 0, 3, .inl zsize)), (n_memory, .inl (E.2.1 0, 3072, .inl zmemory)), (n_register, .inl (E.2.1 0, 24, .inl zregister)), (n_mode, .inl (E.2.1 0, 3, .inl zmode)), (n_pc, .inl (E.2.1 0, 3, .inl zpc)), (n_base, .inl (E.2.1 0, 3, .inl zbase)), (n_bound, .inl (E.2.1 0, 3, .inl zbound)), (n_timer, .inl (E.2.1 0, 3, .inl ztimer)), (n_ranOut, .inl (E.2.1 3, 3, .inl zranOut)), (n_halted, .inl (E.2.1 3, 3, .inl zhalted)), (n_steps, .inl (E.2.1 0, 3, .inl zsteps)), (n_outs, .inl (E.2.1 0, 3, .inl zouts)), (n_output, .inl (E.2.1 0, 1500, .inl zoutput)), (n_waits, .inl (E.2.1 0, 3, .inl zwaits)), (n_typed, .inl (E.2.1 0, 300, .inl ztyped)), (n_disk, .inl (E.2.1 0, 384, .inl zdisk))] sz [(n0, .inr (6, [.ref n_tape, .int ztaped, .ref n_isThere, .ref n_size, .ref n_depth, .ref n_memory, .ref n_register, .ref n_mode, .ref n_pc, .ref n_base, .ref n_bound, .ref n_timer, .ref n_ranOut, .ref n_halted, .ref n_steps, .ref n_outs, .ref n_output, .ref n_waits, .ref n_typed, .ref n_disk, .ref n_wants, .int zat, .int zend, .int zline, .ref n_labelFrom, .ref n_labelSize, .ref n_labelAddress, .int zlabels, .int zfault, .int zfaultLine, .int zisTold, .int zaddress, .ref n_made, .int zmissing, .int zgood, .int zvalue, .int zvalueFrom, .int zvalueSize, .int zme])), (n_size, .inl (E.2.1 0, 3, .inl zsize)), (n_memory, .inl (E.2.1 0, 3072, .inl o_zmemory)), (n_register, .inl (E.2.1 0, 24, .inl o_zregister)), (n_mode, .inl (E.2.1 0, 3, .inl o_zmode)), (n_pc, .inl (E.2.1 0, 3, .inl o_zpc)), (n_base, .inl (E.2.1 0, 3, .inl o_zbase)), (n_bound, .inl (E.2.1 0, 3, .inl o_zbound)), (n_timer, .inl (E.2.1 0, 3, .inl o_ztimer)), (n_ranOut, .inl (E.2.1 3, 3, .inl o_zranOut)), (n_halted, .inl (E.2.1 3, 3, .inl o_zhalted)), (n_steps, .inl (E.2.1 0, 3, .inl o_zsteps)), (n_outs, .inl (E.2.1 0, 3, .inl o_zouts)), (n_output, .inl (E.2.1 0, 1500, .inl o_zoutput)), (n_waits, .inl (E.2.1 0, 3, .inl o_zwaits)), (n_typed, .inl (E.2.1 0, 300, .inl o_ztyped)), (n_disk, .inl (E.2.1 0, 384, .inl o_zdisk))] := by
  refine jw (by decide +kernel) (Nat.le_of_ble_eq_true rfl) ?_
  intro p e s m below meth c A ls J hJ hAe hsz hA hZ hP hD hl
  rw [← hAe]
  have hS : va_S A s.heap s.heap [] := va_S.rf
  have hl : lv_has ls 9 [(0, .ref n0)] := hl
  unfold f_MD_step at h
  refine lv_aload_n J.1 J.2.1 d_MD_step_0 rfl (lv_at hl 0 rfl) ?_
  refine jg J hJ hP 0 rfl rfl i_MD 14 (by decide) gf_MD_59 rfl d_MD_step_1 ?_
  refine lv_aload_n J.1 J.2.1 d_MD_step_4 rfl (lv_at hl 0 rfl) ?_
  refine jg J hJ hP 0 rfl rfl i_MD 38 (by decide) gf_MD_261 rfl d_MD_step_5 ?_
  refine lv_dup2_11 J.1 J.2.1 d_MD_step_8 rfl rfl ?_
  replace h := g_ck h
  obtain ⟨k_41, h⟩ := h
  refine jai J hJ hP 11 rfl k_41 d_MD_step_9 ?_
  refine lv_iconst (v := 1) J.1 J.2.1 d_MD_step_10 (by decide) ?_
  refine lv_iadd J.1 J.2.1 d_MD_step_11 ?_
  replace h := g_ck h
  obtain ⟨k_42, h⟩ := h
  refine jsi J hJ hP hD hS 11 rfl k_42 d_MD_step_12 (WS' := [(n0, .inr (6, [.ref n_tape, .int ztaped, .ref n_isThere, .ref n_size, .ref n_depth, .ref n_memory, .ref n_register, .ref n_mode, .ref n_pc, .ref n_base, .ref n_bound, .ref n_timer, .ref n_ranOut, .ref n_halted, .ref n_steps, .ref n_outs, .ref n_output, .ref n_waits, .ref n_typed, .ref n_disk, .ref n_wants, .int zat, .int zend, .int zline, .ref n_labelFrom, .ref n_labelSize, .ref n_labelAddress, .int zlabels, .int zfault, .int zfaultLine, .int zisTold, .int zaddress, .ref n_made, .int zmissing, .int zgood, .int zvalue, .int zvalueFrom, .int zvalueSize, .int zme])), (n_size, .inl (E.2.1 0, 3, .inl zsize)), (n_memory, .inl (E.2.1 0, 3072, .inl zmemory)), (n_register, .inl (E.2.1 0, 24, .inl zregister)), (n_mode, .inl (E.2.1 0, 3, .inl zmode)), (n_pc, .inl (E.2.1 0, 3, .inl zpc)), (n_base, .inl (E.2.1 0, 3, .inl zbase)), (n_bound, .inl (E.2.1 0, 3, .inl zbound)), (n_timer, .inl (E.2.1 0, 3, .inl ztimer)), (n_ranOut, .inl (E.2.1 3, 3, .inl zranOut)), (n_halted, .inl (E.2.1 3, 3, .inl zhalted)), (n_steps, .inl (E.2.1 0, 3, .inl (upd zsteps zme.toNatClampNeg ((zsteps zme.toNatClampNeg) + 1)))), (n_outs, .inl (E.2.1 0, 3, .inl zouts)), (n_output, .inl (E.2.1 0, 1500, .inl zoutput)), (n_waits, .inl (E.2.1 0, 3, .inl zwaits)), (n_typed, .inl (E.2.1 0, 300, .inl ztyped)), (n_disk, .inl (E.2.1 0, 384, .inl zdisk))]) rfl ?_
  clear hP hD hS
  intro H locs hP hD hS
  refine lv_aload_n J.1 J.2.1 d_MD_step_13 rfl (lv_at hl 0 rfl) ?_
  refine jg J hJ hP 0 rfl rfl i_MD 8 (by decide) gf_MD_41 rfl d_MD_step_14 ?_
  refine lv_aload_n J.1 J.2.1 d_MD_step_17 rfl (lv_at hl 0 rfl) ?_
  refine jg J hJ hP 0 rfl rfl i_MD 38 (by decide) gf_MD_261 rfl d_MD_step_18 ?_
  replace h := g_ck h
  obtain ⟨k_43, h⟩ := h
  refine jai J hJ hP 5 rfl k_43 d_MD_step_21 ?_
  refine lv_istore_n (lv' := [(1, .int (zpc zme.toNatClampNeg)), (0, .ref n0)]) J.1 J.2.1 d_MD_step_22 rfl hl (by decide) rfl ?_
  clear hl
  intro ls hl
  refine lv_aload_n J.1 J.2.1 d_MD_step_23 rfl (lv_at hl 1 rfl) ?_
  refine jg J hJ hP 0 rfl rfl i_MD 7 (by decide) gf_MD_38 rfl d_MD_step_24 ?_
  refine lv_aload_n J.1 J.2.1 d_MD_step_27 rfl (lv_at hl 1 rfl) ?_
  refine jg J hJ hP 0 rfl rfl i_MD 38 (by decide) gf_MD_261 rfl d_MD_step_28 ?_
  replace h := g_ck h
  obtain ⟨k_44, h⟩ := h
  refine jai J hJ hP 4 rfl k_44 d_MD_step_31 ?_
  refine lv_iconst (v := 1) J.1 J.2.1 d_MD_step_32 (by decide) ?_
  refine lv_icmp_ne (tgt := 56) J.1 J.2.1 d_MD_step_33 (by decide) (fun c_45 => ?_) (fun c_45 => ?_)
  · replace h := g_f c_45 h
    exact kb_MD_step_56 J hJ hA hZ _ _ _ _ _ _ _ _ _ _ _ _ _ _ _ _ _ _ _ _ _ _ _ _ _ _ _ _ _ _ _ _ _ _ _ h hP hD hS (lv_sub hl [1, 0] rfl)
  · replace h := g_t c_45 h
    refine lv_aload_n J.1 J.2.1 d_MD_step_36 rfl (lv_at hl 1 rfl) ?_
    refine jg J hJ hP 0 rfl rfl i_MD 12 (by decide) gf_MD_53 rfl d_MD_step_37 ?_
    refine lv_aload_n J.1 J.2.1 d_MD_step_40 rfl (lv_at hl 1 rfl) ?_
    refine jg J hJ hP 0 rfl rfl i_MD 38 (by decide) gf_MD_261 rfl d_MD_step_41 ?_
    replace h := g_ck h
    obtain ⟨k_46, h⟩ := h
    refine va_zald J.1 J.2.1 hJ.1 hP 9 3 rfl rfl k_46 d_MD_step_44 ?_
    refine lv_if_eq (tgt := 56) J.1 J.2.1 d_MD_step_45 (by decide) (fun c_47 => ?_) (fun c_47 => ?_)
    · replace h := g_t c_47 h
      exact kb_MD_step_56 J hJ hA hZ _ _ _ _ _ _ _ _ _ _ _ _ _ _ _ _ _ _ _ _ _ _ _ _ _ _ _ _ _ _ _ _ _ _ _ h hP hD hS (lv_sub hl [1, 0] rfl)
    · replace h := g_f c_47 h
      refine lv_aload_n J.1 J.2.1 d_MD_step_48 rfl (lv_at hl 1 rfl) ?_
      refine lv_iconst (v := 4) J.1 J.2.1 d_MD_step_49 (by decide) ?_
      refine lv_iconst (v := 0) J.1 J.2.1 d_MD_step_50 (by decide) ?_
      refine lv_iload_n J.1 J.2.1 d_MD_step_51 rfl (lv_at hl 0 rfl) ?_
      replace h := g_bd h
      obtain ⟨⟨zmemory_48, zmode_48, zpc_48, zbase_48, zbound_48, zranOut_48⟩, q_48, h⟩ := h
      try dsimp only at h
      have hq := ct_MD_trap l E n0 n_base n_bound n_depth n_disk n_halted n_isThere n_labelAddress n_labelFrom n_labelSize n_made n_memory n_mode n_output n_outs n_pc n_ranOut n_register n_size n_steps n_tape n_timer n_typed n_waits n_wants H.size ztaped zat zend zline zlabels zfault zfaultLine zisTold zaddress zmissing zgood zvalue zvalueFrom zvalueSize zme zmemory zmode zpc zbase zbound zranOut 4 0 (zpc zme.toNatClampNeg) zmemory_48 zmode_48 zpc_48 zbase_48 zbound_48 zranOut_48 q_48
      have hr := jrunV (p := p) (e := e) (below := below) (R := ({ frames := 3, cells := 0, slots := 0, locals := 82 })) (cells := 0) (slots := 0) (As := [.int 4, .int 0, .int (zpc zme.toNatClampNeg)]) (rest := []) J hJ hA hZ hP hD hS hq [0, 2, 4, 5, 6, 7, 9] rfl (by decide) gl_MD_267 gi_MD_trap gsel_MD_trap gini_MD gc_MD_trap hd_MD_trap ⟨rfl, rfl, Nat.le_of_ble_eq_true rfl, Nat.le_of_ble_eq_true rfl⟩ rfl rfl hl.1 rfl rfl (Nat.le_of_ble_eq_true rfl) d_MD_step_52 ⟨Nat.zero_le _, Nat.zero_le _⟩
      clear hq
      refine jk_v hr hA hP hD hS [0, 2, 4, 5, 6, 7, 9] [1, 3, 8, 10, 11, 12, 13, 14, 15, 16] (WR := [(n_size, .inl (E.2.1 0, 3, .inl zsize)), (n_register, .inl (E.2.1 0, 24, .inl zregister)), (n_timer, .inl (E.2.1 0, 3, .inl ztimer)), (n_halted, .inl (E.2.1 3, 3, .inl zhalted)), (n_steps, .inl (E.2.1 0, 3, .inl (upd zsteps zme.toNatClampNeg ((zsteps zme.toNatClampNeg) + 1)))), (n_outs, .inl (E.2.1 0, 3, .inl zouts)), (n_output, .inl (E.2.1 0, 1500, .inl zoutput)), (n_waits, .inl (E.2.1 0, 3, .inl zwaits)), (n_typed, .inl (E.2.1 0, 300, .inl ztyped)), (n_disk, .inl (E.2.1 0, 384, .inl zdisk))]) rfl rfl (by decide) (by decide) [10, 0, 11, 1, 12, 13, 14, 15, 2, 16, 3, 4, 5, 6, 7, 8, 9] (WF := [(n0, .inr (6, [.ref n_tape, .int ztaped, .ref n_isThere, .ref n_size, .ref n_depth, .ref n_memory, .ref n_register, .ref n_mode, .ref n_pc, .ref n_base, .ref n_bound, .ref n_timer, .ref n_ranOut, .ref n_halted, .ref n_steps, .ref n_outs, .ref n_output, .ref n_waits, .ref n_typed, .ref n_disk, .ref n_wants, .int zat, .int zend, .int zline, .ref n_labelFrom, .ref n_labelSize, .ref n_labelAddress, .int zlabels, .int zfault, .int zfaultLine, .int zisTold, .int zaddress, .ref n_made, .int zmissing, .int zgood, .int zvalue, .int zvalueFrom, .int zvalueSize, .int zme])), (n_size, .inl (E.2.1 0, 3, .inl zsize)), (n_memory, .inl (E.2.1 0, 3072, .inl zmemory_48)), (n_register, .inl (E.2.1 0, 24, .inl zregister)), (n_mode, .inl (E.2.1 0, 3, .inl zmode_48)), (n_pc, .inl (E.2.1 0, 3, .inl zpc_48)), (n_base, .inl (E.2.1 0, 3, .inl zbase_48)), (n_bound, .inl (E.2.1 0, 3, .inl zbound_48)), (n_timer, .inl (E.2.1 0, 3, .inl ztimer)), (n_ranOut, .inl (E.2.1 3, 3, .inl zranOut_48)), (n_halted, .inl (E.2.1 3, 3, .inl zhalted)), (n_steps, .inl (E.2.1 0, 3, .inl (upd zsteps zme.toNatClampNeg ((zsteps zme.toNatClampNeg) + 1)))), (n_outs, .inl (E.2.1 0, 3, .inl zouts)), (n_output, .inl (E.2.1 0, 1500, .inl zoutput)), (n_waits, .inl (E.2.1 0, 3, .inl zwaits)), (n_typed, .inl (E.2.1 0, 300, .inl ztyped)), (n_disk, .inl (E.2.1 0, 384, .inl zdisk))]) rfl (by decide) ?_
      clear hP hD hS
      intro H locs hP hD hS
      clear hr
      have h := Option.some.inj h
      have e_0 := (Prod.mk.inj h).1
      have h := (Prod.mk.inj h).2
      have e_1 := (Prod.mk.inj h).1
      have h := (Prod.mk.inj h).2
      have e_2 := (Prod.mk.inj h).1
      have h := (Prod.mk.inj h).2
      have e_3 := (Prod.mk.inj h).1
      have h := (Prod.mk.inj h).2
      have e_4 := (Prod.mk.inj h).1
      have h := (Prod.mk.inj h).2
      have e_5 := (Prod.mk.inj h).1
      have h := (Prod.mk.inj h).2
      have e_6 := (Prod.mk.inj h).1
      have h := (Prod.mk.inj h).2
      have e_7 := (Prod.mk.inj h).1
      have h := (Prod.mk.inj h).2
      have e_8 := (Prod.mk.inj h).1
      have h := (Prod.mk.inj h).2
      have e_9 := (Prod.mk.inj h).1
      have h := (Prod.mk.inj h).2
      have e_10 := (Prod.mk.inj h).1
      have h := (Prod.mk.inj h).2
      have e_11 := (Prod.mk.inj h).1
      have h := (Prod.mk.inj h).2
      have e_12 := (Prod.mk.inj h).1
      have h := (Prod.mk.inj h).2
      have e_13 := (Prod.mk.inj h).1
      have h := (Prod.mk.inj h).2
      rw [← e_0, ← e_1, ← e_2, ← e_3, ← e_4, ← e_5, ← e_6, ← e_7, ← e_8, ← e_9, ← e_10, ← e_11, ← e_12, ← e_13, ← h]
      exact jr_v J hS hP hD d_MD_step_55
