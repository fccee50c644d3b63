theorem hd_MD_isGuest : y_MD_isGuest.cls ≠ "java/lang/invoke/MethodHandle" ∧ y_MD_isGuest.cls ≠ "java/lang/invoke/VarHandle" ∧ (parseMethodDescriptor y_MD_isGuest.desc).map (fun d => d.parameters.length) = some 1 := by decide +kernel
def f_MD_isGuest (zisThere : Nat → Int32) (p1 : Int32) : Option (Int32) := ((f_MD_in  p1 0 2).bind fun r_1 => (if r_1 = (0 : Int32) then (some 0) else (if ck p1 3 then (if (zisThere p1.toNatClampNeg) = (0 : Int32) then (some 0) else (some 1)) else none)))
set_option maxHeartbeats 4000000 in
set_option maxRecDepth 100000 in
theorem ct_MD_isGuest (l : Launch) (E : jz_E) (n0 n_base n_bound n_depth n_disk n_halted n_isThere n_labelAddress n_labelFrom n_labelSize n_made n_memory n_mode n_output n_outs n_pc n_ranOut n_register n_size n_steps n_tape n_timer n_typed n_waits n_wants : Nat) (sz : Nat) (ztaped : Int32) (zat : Int32) (zend : Int32) (zline : Int32) (zlabels : Int32) (zfault : Int32) (zfaultLine : Int32) (zisTold : Int32) (zaddress : Int32) (zmissing : Int32) (zgood : Int32) (zvalue : Int32) (zvalueFrom : Int32) (zvalueSize : Int32) (zme : Int32) (zisThere : Nat → Int32) (p1 : Int32) (o_r : Int32)  (h : f_MD_isGuest zisThere p1 = some o_r) : CTi l E y_MD_isGuest c_MD_isGuest 2 (some .boolean) ({ frames := 1, cells := 0, slots := 0, locals := 22 }) [.ref n0, .int p1] [(n0, .inr (6, [.ref n_tape, .int ztaped, .ref n_isThere, .ref n_size, .ref n_depth, .ref n_memory, .ref n_register, .ref n_mode, .ref n_pc, .ref n_base, .ref n_bound, .ref n_timer, .ref n_ranOut, .ref n_halted, .ref n_steps, .ref n_outs, .ref n_output, .ref n_waits, .ref n_typed, .ref n_disk, .ref n_wants, .int zat, .int zend, .int zline, .ref n_labelFrom, .ref n_labelSize, .ref n_labelAddress, .int zlabels, .int zfault, .int zfaultLine, .int zisTold, .int zaddress, .ref n_made, .int zmissing, .int zgood, .int zvalue, .int zvalueFrom, .int zvalueSize, .int zme])), (n_isThere, .inl (E.2.1 3, 3, .inl zisThere))] sz o_r [(n0, .inr (6, [.ref n_tape, .int ztaped, .ref n_isThere, .ref n_size, .ref n_depth, .ref n_memory, .ref n_register, .ref n_mode, .ref n_pc, .ref n_base, .ref n_bound, .ref n_timer, .ref n_ranOut, .ref n_halted, .ref n_steps, .ref n_outs, .ref n_output, .ref n_waits, .ref n_typed, .ref n_disk, .ref n_wants, .int zat, .int zend, .int zline, .ref n_labelFrom, .ref n_labelSize, .ref n_labelAddress, .int zlabels, .int zfault, .int zfaultLine, .int zisTold, .int zaddress, .ref n_made, .int zmissing, .int zgood, .int zvalue, .int zvalueFrom, .int zvalueSize, .int zme])), (n_isThere, .inl (E.2.1 3, 3, .inl zisThere))] := by
  refine jw (by decide +kernel) (Nat.le_of_ble_eq_true rfl) ?_
  intro p e s m below meth c A ls J hJ hAe hsz hA hZ hP hD hl
  rw [← hAe]
  have hS : va_S A s.heap s.heap [] := va_S.rf
  have hl : lv_has ls 2 [(0, .ref n0), (1, .int p1)] := hl
  unfold f_MD_isGuest at h
  refine lv_iload_n J.1 J.2.1 d_MD_isGuest_0 rfl (lv_at hl 1 rfl) ?_
  refine lv_iconst (v := 0) J.1 J.2.1 d_MD_isGuest_1 (by decide) ?_
  refine lv_iconst (v := 2) J.1 J.2.1 d_MD_isGuest_2 (by decide) ?_
  replace h := g_bd h
  obtain ⟨r_1, q_1, h⟩ := h
  have hq := ct_MD_in l E  s.heap.size  p1 0 2 r_1 q_1
  have hr := jrunS (p := p) (e := e) (below := below) (R := ({ frames := 1, cells := 0, slots := 0, locals := 22 })) (cells := 0) (slots := 0) (As := [.int p1, .int 0, .int 2]) (rest := []) J hJ hA hZ hP hD hS hq [] rfl (by decide) gl_MD_246 gs_MD_in gini_MD gc_MD_in hd_MD_in ⟨rfl, rfl, Nat.le_of_ble_eq_true rfl, Nat.le_of_ble_eq_true rfl⟩ hl.1 rfl rfl (Nat.le_of_ble_eq_true rfl) d_MD_isGuest_3 ⟨Nat.zero_le _, Nat.zero_le _⟩
  clear hq
  refine jk_i hr hA hP hD hS [] [0, 1] (WR := [(n0, .inr (6, [.ref n_tape, .int ztaped, .ref n_isThere, .ref n_size, .ref n_depth, .ref n_memory, .ref n_register, .ref n_mode, .ref n_pc, .ref n_base, .ref n_bound, .ref n_timer, .ref n_ranOut, .ref n_halted, .ref n_steps, .ref n_outs, .ref n_output, .ref n_waits, .ref n_typed, .ref n_disk, .ref n_wants, .int zat, .int zend, .int zline, .ref n_labelFrom, .ref n_labelSize, .ref n_labelAddress, .int zlabels, .int zfault, .int zfaultLine, .int zisTold, .int zaddress, .ref n_made, .int zmissing, .int zgood, .int zvalue, .int zvalueFrom, .int zvalueSize, .int zme])), (n_isThere, .inl (E.2.1 3, 3, .inl zisThere))]) rfl rfl (by decide) (by decide) [0, 1] (WF := [(n0, .inr (6, [.ref n_tape, .int ztaped, .ref n_isThere, .ref n_size, .ref n_depth, .ref n_memory, .ref n_register, .ref n_mode, .ref n_pc, .ref n_base, .ref n_bound, .ref n_timer, .ref n_ranOut, .ref n_halted, .ref n_steps, .ref n_outs, .ref n_output, .ref n_waits, .ref n_typed, .ref n_disk, .ref n_wants, .int zat, .int zend, .int zline, .ref n_labelFrom, .ref n_labelSize, .ref n_labelAddress, .int zlabels, .int zfault, .int zfaultLine, .int zisTold, .int zaddress, .ref n_made, .int zmissing, .int zgood, .int zvalue, .int zvalueFrom, .int zvalueSize, .int zme])), (n_isThere, .inl (E.2.1 3, 3, .inl zisThere))]) rfl (by decide) ?_
  clear hP hD hS
  intro H locs hP hD hS
  clear hr
  refine lv_if_eq (tgt := 22) J.1 J.2.1 d_MD_isGuest_6 (by decide) (fun c_2 => ?_) (fun c_2 => ?_)
  · replace h := g_t c_2 h
    refine lv_iconst (v := 0) J.1 J.2.1 d_MD_isGuest_22 (by decide) ?_
    have h := Option.some.inj h
    rw [← h]
    exact jr_i J hS hP hD rfl d_MD_isGuest_23
  · replace h := g_f c_2 h
    refine lv_aload_n J.1 J.2.1 d_MD_isGuest_9 rfl (lv_at hl 0 rfl) ?_
    refine jg J hJ hP 0 rfl rfl i_MD 2 (by decide) gf_MD_21 rfl d_MD_isGuest_10 ?_
    refine lv_iload_n J.1 J.2.1 d_MD_isGuest_13 rfl (lv_at hl 1 rfl) ?_
    replace h := g_ck h
    obtain ⟨k_3, h⟩ := h
    refine va_zald J.1 J.2.1 hJ.1 hP 1 3 rfl rfl k_3 d_MD_isGuest_14 ?_
    refine lv_if_eq (tgt := 22) J.1 J.2.1 d_MD_isGuest_15 (by decide) (fun c_4 => ?_) (fun c_4 => ?_)
    · replace h := g_t c_4 h
      refine lv_iconst (v := 0) J.1 J.2.1 d_MD_isGuest_22 (by decide) ?_
      have h := Option.some.inj h
      rw [← h]
      exact jr_i J hS hP hD rfl d_MD_isGuest_23
    · replace h := g_f c_4 h
      refine lv_iconst (v := 1) J.1 J.2.1 d_MD_isGuest_18 (by decide) ?_
      refine lv_goto (tgt := 23) J.1 J.2.1 d_MD_isGuest_19 (by decide) ?_
      have h := Option.some.inj h
      rw [← h]
      exact jr_i J hS hP hD rfl d_MD_isGuest_23

theorem hd_MD_run : y_MD_run.cls ≠ "java/lang/invoke/MethodHandle" ∧ y_MD_run.cls ≠ "java/lang/invoke/VarHandle" ∧ (parseMethodDescriptor y_MD_run.desc).map (fun d => d.parameters.length) = some 2 := by decide +kernel
def b_MD_run_28 : Nat → Int32 → (Nat → Int32) → (Nat → Int32) → (Nat → Int32) → (Nat → Int32) → (Nat → Int32) → (Nat → Int32) → (Nat → Int32) → (Nat → Int32) → (Nat → Int32) → (Nat → Int32) → (Nat → Int32) → (Nat → Int32) → (Nat → Int32) → (Nat → Int32) → (Nat → Int32) → (Nat → Int32) → Int32 → Int32 → Int32 → Option (Int32 × Int32 × (Nat → Int32) × (Nat → Int32) × (Nat → Int32) × (Nat → Int32) × (Nat → Int32) × (Nat → Int32) × (Nat → Int32) × (Nat → Int32) × (Nat → Int32) × (Nat → Int32) × (Nat → Int32) × (Nat → Int32) × (Nat → Int32) × (Nat → Int32) × (Nat → Int32))
  | 0, _, _, _, _, _, _, _, _, _, _, _, _, _, _, _, _, _, _, _, _ => none
  | n + 1, zme, zsize, zmemory, zregister, zmode, zpc, zbase, zbound, ztimer, zranOut, zhalted, zsteps, zouts, zoutput, zwaits, ztyped, zdisk, x1, x2, x3 => (if x2 ≤ x3 then (some (x3, zme, zmemory, zregister, zmode, zpc, zbase, zbound, ztimer, zranOut, zhalted, zsteps, zouts, zoutput, zwaits, ztyped, zdisk)) else (if ck x1 3 then (if (zhalted x1.toNatClampNeg) = (0 : Int32) then ((f_MD_step zme zsize zmemory zregister zmode zpc zbase zbound ztimer zranOut zhalted zsteps zouts zoutput zwaits ztyped zdisk).bind fun (zmemory_4, zregister_4, zmode_4, zpc_4, zbase_4, zbound_4, ztimer_4, zranOut_4, zhalted_4, zsteps_4, zouts_4, zoutput_4, zwaits_4, ztyped_4, zdisk_4) => b_MD_run_28 n zme zsize zmemory_4 zregister_4 zmode_4 zpc_4 zbase_4 zbound_4 ztimer_4 zranOut_4 zhalted_4 zsteps_4 zouts_4 zoutput_4 zwaits_4 ztyped_4 zdisk_4 x1 x2 (x3 + 1)) else (some (x3, zme, zmemory, zregister, zmode, zpc, zbase, zbound, ztimer, zranOut, zhalted, zsteps, zouts, zoutput, zwaits, ztyped, zdisk))) else none))
def f_MD_run (zme : Int32) (zisThere : Nat → Int32) (zsize : Nat → Int32) (zmemory : Nat → Int32) (zregister : Nat → Int32) (zmode : Nat → Int32) (zpc : Nat → Int32) (zbase : Nat → Int32) (zbound : Nat → Int32) (ztimer : Nat → Int32) (zranOut : Nat → Int32) (zhalted : Nat → Int32) (zsteps : Nat → Int32) (zouts : Nat → Int32) (zoutput : Nat → Int32) (zwaits : Nat → Int32) (ztyped : Nat → Int32) (zdisk : Nat → Int32) (p1 : Int32) (p2 : Int32) : Option (Int32 × Int32 × (Nat → Int32) × (Nat → Int32) × (Nat → Int32) × (Nat → Int32) × (Nat → Int32) × (Nat → Int32) × (Nat → Int32) × (Nat → Int32) × (Nat → Int32) × (Nat → Int32) × (Nat → Int32) × (Nat → Int32) × (Nat → Int32) × (Nat → Int32) × (Nat → Int32)) := ((f_MD_isGuest zisThere p1).bind fun r_5 => (if r_5 = (0 : Int32) then (some ((-1), zme, zmemory, zregister, zmode, zpc, zbase, zbound, ztimer, zranOut, zhalted, zsteps, zouts, zoutput, zwaits, ztyped, zdisk)) else ((f_MD_in  p2 0 5000).bind fun r_7 => (if r_7 = (0 : Int32) then (some ((-1), zme, zmemory, zregister, zmode, zpc, zbase, zbound, ztimer, zranOut, zhalted, zsteps, zouts, zoutput, zwaits, ztyped, zdisk)) else b_MD_run_28 65536 p1 zsize zmemory zregister zmode zpc zbase zbound ztimer zranOut zhalted zsteps zouts zoutput zwaits ztyped zdisk p1 p2 0))))
set_option maxHeartbeats 4000000 in
set_option maxRecDepth 100000 in
theorem kb_MD_run_28 {p : Program} {l : Launch} {e : Env} {s : State} {m : MethodId} {below : List Frame} {meth : Method} {c : Code} {A : Nat → Prop} {E : jz_E} {n0 n_base n_bound n_depth n_disk n_halted n_isThere n_labelAddress n_labelFrom n_labelSize n_made n_memory n_mode n_output n_outs n_pc n_ranOut n_register n_size n_steps n_tape n_timer n_typed n_waits n_wants : Nat} {p1 : Int32} {p2 : Int32} {o_r : Int32} {o_zme : Int32} {o_zmemory : Nat → Int32} {o_zregister : Nat → Int32} {o_zmode : Nat → Int32} {o_zpc : Nat → Int32} {o_zbase : Nat → Int32} {o_zbound : Nat → Int32} {o_ztimer : Nat → Int32} {o_zranOut : Nat → Int32} {o_zhalted : Nat → Int32} {o_zsteps : Nat → Int32} {o_zouts : Nat → Int32} {o_zoutput : Nat → Int32} {o_zwaits : Nat → Int32} {o_ztyped : Nat → Int32} {o_zdisk : Nat → Int32} (J : JC p s m ([.ref n0, .int p1, .int p2] : List Value).toArray meth c c_MD_run 4 (some .int) y_MD_run.cls) (hJ : jE E s) (hA : ∀ q : Nat, s.heap.size ≤ q → A q) (hZ : jz_ok E A s s.heap) : ∀ (n : Nat) (ztaped : Int32) (zat : Int32) (zend : Int32) (zline : Int32) (zlabels : Int32) (zfault : Int32) (zfaultLine : Int32) (zisTold : Int32) (zaddress : Int32) (zmissing : Int32) (zgood : Int32) (zvalue : Int32) (zvalueFrom : Int32) (zvalueSize : Int32) (zme : Int32) (zisThere : Nat → Int32) (zsize : Nat → Int32) (zmemory : Nat → Int32) (zregister : Nat → Int32) (zmode : Nat → Int32) (zpc : Nat → Int32) (zbase : Nat → Int32) (zbound : Nat → Int32) (ztimer : Nat → Int32) (zranOut : Nat → Int32) (zhalted : Nat → Int32) (zsteps : Nat → Int32) (zouts : Nat → Int32) (zoutput : Nat → Int32) (zwaits : Nat → Int32) (ztyped : Nat → Int32) (zdisk : Nat → Int32) (x1 : Int32) (x2 : Int32) (x3 : Int32) (H : Heap) (locs : List Loc) (ls : Array Slot), b_MD_run_28 n zme zsize zmemory zregister zmode zpc zbase zbound ztimer zranOut zhalted zsteps zouts zoutput zwaits ztyped zdisk x1 x2 x3 = some (o_r, o_zme, o_zmemory, o_zregister, o_zmode, o_zpc, o_zbase, o_zbound, o_ztimer, o_zranOut, o_zhalted, o_zsteps, o_zouts, o_zoutput, o_zwaits, o_ztyped, o_zdisk) → va_P E.1 classes [(n0, .inr (6, [.ref n_tape, .int ztaped, .ref n_isThere, .ref n_size, .ref n_depth, .ref n_memory, .ref n_register, .ref n_mode, .ref n_pc, .ref n_base, .ref n_bound, .ref n_timer, .ref n_ranOut, .ref n_halted, .ref n_steps, .ref n_outs, .ref n_output, .ref n_waits, .ref n_typed, .ref n_disk, .ref n_wants, .int zat, .int zend, .int zline, .ref n_labelFrom, .ref n_labelSize, .ref n_labelAddress, .int zlabels, .int zfault, .int zfaultLine, .int zisTold, .int zaddress, .ref n_made, .int zmissing, .int zgood, .int zvalue, .int zvalueFrom, .int zvalueSize, .int zme])), (n_isThere, .inl (E.2.1 3, 3, .inl zisThere)), (n_size, .inl (E.2.1 0, 3, .inl zsize)), (n_memory, .inl (E.2.1 0, 3072, .inl zmemory)), (n_register, .inl (E.2.1 0, 24, .inl zregister)), (n_mode, .inl (E.2.1 0, 3, .inl zmode)), (n_pc, .inl (E.2.1 0, 3, .inl zpc)), (n_base, .inl (E.2.1 0, 3, .inl zbase)), (n_bound, .inl (E.2.1 0, 3, .inl zbound)), (n_timer, .inl (E.2.1 0, 3, .inl ztimer)), (n_ranOut, .inl (E.2.1 3, 3, .inl zranOut)), (n_halted, .inl (E.2.1 3, 3, .inl zhalted)), (n_steps, .inl (E.2.1 0, 3, .inl zsteps)), (n_outs, .inl (E.2.1 0, 3, .inl zouts)), (n_output, .inl (E.2.1 0, 1500, .inl zoutput)), (n_waits, .inl (E.2.1 0, 3, .inl zwaits)), (n_typed, .inl (E.2.1 0, 300, .inl ztyped)), (n_disk, .inl (E.2.1 0, 384, .inl zdisk))] H → va_D A [(n0, .inr (6, [.ref n_tape, .int ztaped, .ref n_isThere, .ref n_size, .ref n_depth, .ref n_memory, .ref n_register, .ref n_mode, .ref n_pc, .ref n_base, .ref n_bound, .ref n_timer, .ref n_ranOut, .ref n_halted, .ref n_steps, .ref n_outs, .ref n_output, .ref n_waits, .ref n_typed, .ref n_disk, .ref n_wants, .int zat, .int zend, .int zline, .ref n_labelFrom, .ref n_labelSize, .ref n_labelAddress, .int zlabels, .int zfault, .int zfaultLine, .int zisTold, .int zaddress, .ref n_made, .int zmissing, .int zgood, .int zvalue, .int zvalueFrom, .int zvalueSize, .int zme])), (n_isThere, .inl (E.2.1 3, 3, .inl zisThere)), (n_size, .inl (E.2.1 0, 3, .inl zsize)), (n_memory, .inl (E.2.1 0, 3072, .inl zmemory)), (n_register, .inl (E.2.1 0, 24, .inl zregister)), (n_mode, .inl (E.2.1 0, 3, .inl zmode)), (n_pc, .inl (E.2.1 0, 3, .inl zpc)), (n_base, .inl (E.2.1 0, 3, .inl zbase)), (n_bound, .inl (E.2.1 0, 3, .inl zbound)), (n_timer, .inl (E.2.1 0, 3, .inl ztimer)), (n_ranOut, .inl (E.2.1 3, 3, .inl zranOut)), (n_halted, .inl (E.2.1 3, 3, .inl zhalted)), (n_steps, .inl (E.2.1 0, 3, .inl zsteps)), (n_outs, .inl (E.2.1 0, 3, .inl zouts)), (n_output, .inl (E.2.1 0, 1500, .inl zoutput)), (n_waits, .inl (E.2.1 0, 3, .inl zwaits)), (n_typed, .inl (E.2.1 0, 300, .inl ztyped)), (n_disk, .inl (E.2.1 0, 384, .inl zdisk))] → va_S A s.heap H locs → lv_has ls 4 [(0, .ref n0), (1, .int x1), (2, .int x2), (3, .int x3)] → W p l e ({ frames := 4, cells := 0, slots := 0, locals := 110 }) s m ([.ref n0, .int p1, .int p2] : List Value).toArray below meth c H locs 0 0 (MQ below (va_Qi (fun (r' : Int32) (u : va_W) => r' = o_r ∧ u = [(n0, .inr (6, [.ref n_tape, .int ztaped, .ref n_isThere, .ref n_size, .ref n_depth, .ref n_memory, .ref n_register, .ref n_mode, .ref n_pc, .ref n_base, .ref n_bound, .ref n_timer, .ref n_ranOut, .ref n_halted, .ref n_steps, .ref n_outs, .ref n_output, .ref n_waits, .ref n_typed, .ref n_disk, .ref n_wants, .int zat, .int zend, .int zline, .ref n_labelFrom, .ref n_labelSize, .ref n_labelAddress, .int zlabels, .int zfault, .int zfaultLine, .int zisTold, .int zaddress, .ref n_made, .int zmissing, .int zgood, .int zvalue, .int zvalueFrom, .int zvalueSize, .int o_zme])), (n_isThere, .inl (E.2.1 3, 3, .inl zisThere)), (n_size, .inl (E.2.1 0, 3, .inl zsize)), (n_memory, .inl (E.2.1 0, 3072, .inl o_zmemory)), (n_register, .inl (E.2.1 0, 24, .inl o_zregister)), (n_mode, .inl (E.2.1 0, 3, .inl o_zmode)), (n_pc, .inl (E.2.1 0, 3, .inl o_zpc)), (n_base, .inl (E.2.1 0, 3, .inl o_zbase)), (n_bound, .inl (E.2.1 0, 3, .inl o_zbound)), (n_timer, .inl (E.2.1 0, 3, .inl o_ztimer)), (n_ranOut, .inl (E.2.1 3, 3, .inl o_zranOut)), (n_halted, .inl (E.2.1 3, 3, .inl o_zhalted)), (n_steps, .inl (E.2.1 0, 3, .inl o_zsteps)), (n_outs, .inl (E.2.1 0, 3, .inl o_zouts)), (n_output, .inl (E.2.1 0, 1500, .inl o_zoutput)), (n_waits, .inl (E.2.1 0, 3, .inl o_zwaits)), (n_typed, .inl (E.2.1 0, 300, .inl o_ztyped)), (n_disk, .inl (E.2.1 0, 384, .inl o_zdisk))]) (BW E A) A) ([.ref n0, .int p1, .int p2] : List Value).toArray s 0 0 A) (F0 m 28 ls []) := by
  intro n
  induction n with
  | zero => intro ztaped zat zend zline zlabels zfault zfaultLine zisTold zaddress zmissing zgood zvalue zvalueFrom zvalueSize zme zisThere zsize zmemory zregister zmode zpc zbase zbound ztimer zranOut zhalted zsteps zouts zoutput zwaits ztyped zdisk x1 x2 x3 H locs ls h; cases h
  | succ n ih =>
    intro ztaped zat zend zline zlabels zfault zfaultLine zisTold zaddress zmissing zgood zvalue zvalueFrom zvalueSize zme zisThere zsize zmemory zregister zmode zpc zbase zbound ztimer zranOut zhalted zsteps zouts zoutput zwaits ztyped zdisk x1 x2 x3 H locs ls h hP hD hS hl
    rw [b_MD_run_28] at h
    refine lv_iload_n J.1 J.2.1 d_MD_run_28 rfl (lv_at hl 3 rfl) ?_
    refine lv_iload_n J.1 J.2.1 d_MD_run_29 rfl (lv_at hl 2 rfl) ?_
    refine lv_icmp_ge (tgt := 52) J.1 J.2.1 d_MD_run_30 (by decide) (fun c_1 => ?_) (fun c_1 => ?_)
    · replace h := g_t c_1 h
      refine lv_iload_n J.1 J.2.1 d_MD_run_52 rfl (lv_at hl 3 rfl) ?_
      have h := Option.some.inj h
      have e_0 := (Prod.mk.inj h).1
      have h := (Prod.mk.inj h).2
      have e_1 := (Prod.mk.inj h).1
      have h := (Prod.mk.inj h).2
      have e_2 := (Prod.mk.inj h).1
      have h := (Prod.mk.inj h).2
      have e_3 := (Prod.mk.inj h).1
      have h := (Prod.mk.inj h).2
      have e_4 := (Prod.mk.inj h).1
      have h := (Prod.mk.inj h).2
      have e_5 := (Prod.mk.inj h).1
      have h := (Prod.mk.inj h).2
      have e_6 := (Prod.mk.inj h).1
      have h := (Prod.mk.inj h).2
      have e_7 := (Prod.mk.inj h).1
      have h := (Prod.mk.inj h).2
      have e_8 := (Prod.mk.inj h).1
      have h := (Prod.mk.inj h).2
      have e_9 := (Prod.mk.inj h).1
      have h := (Prod.mk.inj h).2
      have e_10 := (Prod.mk.inj h).1
      have h := (Prod.mk.inj h).2
      have e_11 := (Prod.mk.inj h).1
      have h := (Prod.mk.inj h).2
      have e_12 := (Prod.mk.inj h).1
      have h := (Prod.mk.inj h).2
      have e_13 := (Prod.mk.inj h).1
      have h := (Prod.mk.inj h).2
      have e_14 := (Prod.mk.inj h).1
      have h := (Prod.mk.inj h).2
      have e_15 := (Prod.mk.inj h).1
      have h := (Prod.mk.inj h).2
      rw [← e_0, ← e_1, ← e_2, ← e_3, ← e_4, ← e_5, ← e_6, ← e_7, ← e_8, ← e_9, ← e_10, ← e_11, ← e_12, ← e_13, ← e_14, ← e_15, ← h]
      exact jr_i J hS hP hD rfl d_MD_run_53
    · replace h := g_f c_1 h
      refine lv_aload_n J.1 J.2.1 d_MD_run_33 rfl (lv_at hl 0 rfl) ?_
      refine jg J hJ hP 0 rfl rfl i_MD 13 (by decide) gf_MD_56 rfl d_MD_run_34 ?_
      refine lv_iload_n J.1 J.2.1 d_MD_run_37 rfl (lv_at hl 1 rfl) ?_
      replace h := g_ck h
      obtain ⟨k_2, h⟩ := h
      refine va_zald J.1 J.2.1 hJ.1 hP 11 3 rfl rfl k_2 d_MD_run_38 ?_
      refine lv_if_ne (tgt := 52) J.1 J.2.1 d_MD_run_39 (by decide) (fun c_3 => ?_) (fun c_3 => ?_)
      · replace h := g_f c_3 h
        refine lv_iload_n J.1 J.2.1 d_MD_run_52 rfl (lv_at hl 3 rfl) ?_
        have h := Option.some.inj h
        have e_0 := (Prod.mk.inj h).1
        have h := (Prod.mk.inj h).2
        have e_1 := (Prod.mk.inj h).1
        have h := (Prod.mk.inj h).2
        have e_2 := (Prod.mk.inj h).1
        have h := (Prod.mk.inj h).2
        have e_3 := (Prod.mk.inj h).1
        have h := (Prod.mk.inj h).2
        have e_4 := (Prod.mk.inj h).1
        have h := (Prod.mk.inj h).2
        have e_5 := (Prod.mk.inj h).1
        have h := (Prod.mk.inj h).2
        have e_6 := (Prod.mk.inj h).1
        have h := (Prod.mk.inj h).2
        have e_7 := (Prod.mk.inj h).1
        have h := (Prod.mk.inj h).2
        have e_8 := (Prod.mk.inj h).1
        have h := (Prod.mk.inj h).2
        have e_9 := (Prod.mk.inj h).1
        have h := (Prod.mk.inj h).2
        have e_10 := (Prod.mk.inj h).1
        have h := (Prod.mk.inj h).2
        have e_11 := (Prod.mk.inj h).1
        have h := (Prod.mk.inj h).2
        have e_12 := (Prod.mk.inj h).1
        have h := (Prod.mk.inj h).2
        have e_13 := (Prod.mk.inj h).1
        have h := (Prod.mk.inj h).2
        have e_14 := (Prod.mk.inj h).1
        have h := (Prod.mk.inj h).2
        have e_15 := (Prod.mk.inj h).1
        have h := (Prod.mk.inj h).2
        rw [← e_0, ← e_1, ← e_2, ← e_3, ← e_4, ← e_5, ← e_6, ← e_7, ← e_8, ← e_9, ← e_10, ← e_11, ← e_12, ← e_13, ← e_14, ← e_15, ← h]
        exact jr_i J hS hP hD rfl d_MD_run_53
      · replace h := g_t c_3 h
        refine lv_aload_n J.1 J.2.1 d_MD_run_42 rfl (lv_at hl 0 rfl) ?_
        replace h := g_bd h
        obtain ⟨⟨zmemory_4, zregister_4, zmode_4, zpc_4, zbase_4, zbound_4, ztimer_4, zranOut_4, zhalted_4, zsteps_4, zouts_4, zoutput_4, zwaits_4, ztyped_4, zdisk_4⟩, q_4, h⟩ := h
        try dsimp only at h
        have hq := ct_MD_step l E n0 n_base n_bound n_depth n_disk n_halted n_isThere n_labelAddress n_labelFrom n_labelSize n_made n_memory n_mode n_output n_outs n_pc n_ranOut n_register n_size n_steps n_tape n_timer n_typed n_waits n_wants H.size ztaped zat zend zline zlabels zfault zfaultLine zisTold zaddress zmissing zgood zvalue zvalueFrom zvalueSize zme zsize zmemory zregister zmode zpc zbase zbound ztimer zranOut zhalted zsteps zouts zoutput zwaits ztyped zdisk zmemory_4 zregister_4 zmode_4 zpc_4 zbase_4 zbound_4 ztimer_4 zranOut_4 zhalted_4 zsteps_4 zouts_4 zoutput_4 zwaits_4 ztyped_4 zdisk_4 q_4
        have hr := jrunV (p := p) (e := e) (below := below) (R := ({ frames := 4, cells := 0, slots := 0, locals := 110 })) (cells := 0) (slots := 0) (As := []) (rest := []) J hJ hA hZ hP hD hS hq [0, 2, 3, 4, 5, 6, 7, 8, 9, 10, 11, 12, 13, 14, 15, 16, 17] rfl (by decide) gl_MD_295 gi_MD_step gsel_MD_step gini_MD gc_MD_step hd_MD_step ⟨rfl, rfl, Nat.le_of_ble_eq_true rfl, Nat.le_of_ble_eq_true rfl⟩ rfl rfl hl.1 rfl rfl (Nat.le_of_ble_eq_true rfl) d_MD_run_43 ⟨Nat.zero_le _, Nat.zero_le _⟩
        clear hq
        refine jk_v hr hA hP hD hS [0, 2, 3, 4, 5, 6, 7, 8, 9, 10, 11, 12, 13, 14, 15, 16, 17] [1] (WR := [(n_isThere, .inl (E.2.1 3, 3, .inl zisThere))]) rfl rfl (by decide) (by decide) [1, 0, 2, 3, 4, 5, 6, 7, 8, 9, 10, 11, 12, 13, 14, 15, 16, 17] (WF := [(n0, .inr (6, [.ref n_tape, .int ztaped, .ref n_isThere, .ref n_size, .ref n_depth, .ref n_memory, .ref n_register, .ref n_mode, .ref n_pc, .ref n_base, .ref n_bound, .ref n_timer, .ref n_ranOut, .ref n_halted, .ref n_steps, .ref n_outs, .ref n_output, .ref n_waits, .ref n_typed, .ref n_disk, .ref n_wants, .int zat, .int zend, .int zline, .ref n_labelFrom, .ref n_labelSize, .ref n_labelAddress, .int zlabels, .int zfault, .int zfaultLine, .int zisTold, .int zaddress, .ref n_made, .int zmissing, .int zgood, .int zvalue, .int zvalueFrom, .int zvalueSize, .int zme])), (n_isThere, .inl (E.2.1 3, 3, .inl zisThere)), (n_size, .inl (E.2.1 0, 3, .inl zsize)), (n_memory, .inl (E.2.1 0, 3072, .inl zmemory_4)), (n_register, .inl (E.2.1 0, 24, .inl zregister_4)), (n_mode, .inl (E.2.1 0, 3, .inl zmode_4)), (n_pc, .inl (E.2.1 0, 3, .inl zpc_4)), (n_base, .inl (E.2.1 0, 3, .inl zbase_4)), (n_bound, .inl (E.2.1 0, 3, .inl zbound_4)), (n_timer, .inl (E.2.1 0, 3, .inl ztimer_4)), (n_ranOut, .inl (E.2.1 3, 3, .inl zranOut_4)), (n_halted, .inl (E.2.1 3, 3, .inl zhalted_4)), (n_steps, .inl (E.2.1 0, 3, .inl zsteps_4)), (n_outs, .inl (E.2.1 0, 3, .inl zouts_4)), (n_output, .inl (E.2.1 0, 1500, .inl zoutput_4)), (n_waits, .inl (E.2.1 0, 3, .inl zwaits_4)), (n_typed, .inl (E.2.1 0, 300, .inl ztyped_4)), (n_disk, .inl (E.2.1 0, 384, .inl zdisk_4))]) rfl (by decide) ?_
        clear hP hD hS
        intro H locs hP hD hS
        clear hr
        refine lv_iinc (v := (x3 + 1)) (lv' := [(3, .int (x3 + 1)), (0, .ref n0), (1, .int x1), (2, .int x2)]) J.1 J.2.1 d_MD_run_46 hl (k := 3) rfl rfl (by decide) rfl ?_
        clear hl
        intro ls hl
        refine lv_goto (tgt := 28) J.1 J.2.1 d_MD_run_49 (by decide) ?_
        exact ih _ _ _ _ _ _ _ _ _ _ _ _ _ _ _ _ _ _ _ _ _ _ _ _ _ _ _ _ _ _ _ _ _ _ _ _ _ _ h hP hD hS (lv_sub hl [1, 2, 3, 0] rfl)
set_option maxHeartbeats 4000000 in
set_option maxRecDepth 100000 in
theorem ct_MD_run (l : Launch) (E : jz_E) (n0 n_base n_bound n_depth n_disk n_halted n_isThere n_labelAddress n_labelFrom n_labelSize n_made n_memory n_mode n_output n_outs n_pc n_ranOut n_register n_size n_steps n_tape n_timer n_typed n_waits n_wants : Nat) (sz : Nat) (ztaped : Int32) (zat : Int32) (zend : Int32) (zline : Int32) (zlabels : Int32) (zfault : Int32) (zfaultLine : Int32) (zisTold : Int32) (zaddress : Int32) (zmissing : Int32) (zgood : Int32) (zvalue : Int32) (zvalueFrom : Int32) (zvalueSize : Int32) (zme : Int32) (zisThere : Nat → Int32) (zsize : Nat → Int32) (zmemory : Nat → Int32) (zregister : Nat → Int32) (zmode : Nat → Int32) (zpc : Nat → Int32) (zbase : Nat → Int32) (zbound : Nat → Int32) (ztimer : Nat → Int32) (zranOut : Nat → Int32) (zhalted : Nat → Int32) (zsteps : Nat → Int32) (zouts : Nat → Int32) (zoutput : Nat → Int32) (zwaits : Nat → Int32) (ztyped : Nat → Int32) (zdisk : Nat → Int32) (p1 : Int32) (p2 : Int32) (o_r : Int32) (o_zme : Int32) (o_zmemory : Nat → Int32) (o_zregister : Nat → Int32) (o_zmode : Nat → Int32) (o_zpc : Nat → Int32) (o_zbase : Nat → Int32) (o_zbound : Nat → Int32) (o_ztimer : Nat → Int32) (o_zranOut : Nat → Int32) (o_zhalted : Nat → Int32) (o_zsteps : Nat → Int32) (o_zouts : Nat → Int32) (o_zoutput : Nat → Int32) (o_zwaits : Nat → Int32) (o_ztyped : Nat → Int32) (o_zdisk : Nat → Int32)  (h : f_MD_run zme zisThere zsize zmemory zregister zmode zpc zbase zbound ztimer zranOut zhalted zsteps zouts zoutput zwaits ztyped zdisk p1 p2 = some (o_r, o_zme, o_zmemory, o_zregister, o_zmode, o_zpc, o_zbase, o_zbound, o_ztimer, o_zranOut, o_zhalted, o_zsteps, o_zouts, o_zoutput, o_zwaits, o_ztyped, o_zdisk)) : CTi l E y_MD_run c_MD_run 4 (some .int) ({ frames := 4, cells := 0, slots := 0, locals := 110 }) [.ref n0, .int p1, .int p2] [(n0, .inr (6, [.ref n_tape, .int ztaped, .ref n_isThere, .ref n_size, .ref n_depth, .ref n_memory, .ref n_register, .ref n_mode, .ref n_pc, .ref n_base, .ref n_bound, .ref n_timer, .ref n_ranOut, .ref n_halted, .ref n_steps, .ref n_outs, .ref n_output, .ref n_waits, .ref n_typed, .ref n_disk, .ref n_wants, .int zat, .int zend, .int zline, .ref n_labelFrom, .ref n_labelSize, .ref n_labelAddress, .int zlabels, .int zfault, .int zfaultLine, .int zisTold, .int zaddress, .ref n_made, .int zmissing, .int zgood, .int zvalue, .int zvalueFrom, .int zvalueSize, .int zme])), (n_isThere, .inl (E.2.1 3, 3, .inl zisThere)), (n_size, .inl (E.2.1 0, 3, .inl zsize)), (n_memory, .inl (E.2.1 0, 3072, .inl zmemory)), (n_register, .inl (E.2.1 0, 24, .inl zregister)), (n_mode, .inl (E.2.1 0, 3, .inl zmode)), (n_pc, .inl (E.2.1 0, 3, .inl zpc)), (n_base, .inl (E.2.1 0, 3, .inl zbase)), (n_bound, .inl (E.2.1 0, 3, .inl zbound)), (n_timer, .inl (E.2.1 0, 3, .inl ztimer)), (n_ranOut, .inl (E.2.1 3, 3, .inl zranOut)), (n_halted, .inl (E.2.1 3, 3, .inl zhalted)), (n_steps, .inl (E.2.1 0, 3, .inl zsteps)), (n_outs, .inl (E.2.1 0, 3, .inl zouts)), (n_output, .inl (E.2.1 0, 1500, .inl zoutput)), (n_waits, .inl (E.2.1 0, 3, .inl zwaits)), (n_typed, .inl (E.2.1 0, 300, .inl ztyped)), (n_disk, .inl (E.2.1 0, 384, .inl zdisk))] sz o_r [(n0, .inr (6, [.ref n_tape, .int ztaped, .ref n_isThere, .ref n_size, .ref n_depth, .ref n_memory, .ref n_register, .ref n_mode, .ref n_pc, .ref n_base, .ref n_bound, .ref n_timer, .ref n_ranOut, .ref n_halted, .ref n_steps, .ref n_outs, .ref n_output, .ref n_waits, .ref n_typed, .ref n_disk, .ref n_wants, .int zat, .int zend, .int zline, .ref n_labelFrom, .ref n_labelSize, .ref n_labelAddress, .int zlabels, .int zfault, .int zfaultLine, .int zisTold, .int zaddress, .ref n_made, .int zmissing, .int zgood, .int zvalue, .int zvalueFrom, .int zvalueSize, .int o_zme])), (n_isThere, .inl (E.2.1 3, 3, .inl zisThere)), (n_size, .inl (E.2.1 0, 3, .inl zsize)), (n_memory, .inl (E.2.1 0, 3072, .inl o_zmemory)), (n_register, .inl (E.2.1 0, 24, .inl o_zregister)), (n_mode, .inl (E.2.1 0, 3, .inl o_zmode)), (n_pc, .inl (E.2.1 0, 3, .inl o_zpc)), (n_base, .inl (E.2.1 0, 3, .inl o_zbase)), (n_bound, .inl (E.2.1 0, 3, .inl o_zbound)), (n_timer, .inl (E.2.1 0, 3, .inl o_ztimer)), (n_ranOut, .inl (E.2.1 3, 3, .inl o_zranOut)), (n_halted, .inl (E.2.1 3, 3, .inl o_zhalted)), (n_steps, .inl (E.2.1 0, 3, .inl o_zsteps)), (n_outs, .inl (E.2.1 0, 3, .inl o_zouts)), (n_output, .inl (E.2.1 0, 1500, .inl o_zoutput)), (n_waits, .inl (E.2.1 0, 3, .inl o_zwaits)), (n_typed, .inl (E.2.1 0, 300, .inl o_ztyped)), (n_disk, .inl (E.2.1 0, 384, .inl o_zdisk))] := by
  refine jw (by decide +kernel) (Nat.le_of_ble_eq_true rfl) ?_
  intro p e s m below meth c A ls J hJ hAe hsz hA hZ hP hD hl
  rw [← hAe]
  have hS : va_S A s.heap s.heap [] := va_S.rf
  have hl : lv_has ls 4 [(0, .ref n0), (1, .int p1), (2, .int p2)] := hl
  unfold f_MD_run at h
  refine lv_aload_n J.1 J.2.1 d_MD_run_0 rfl (lv_at hl 0 rfl) ?_
  refine lv_iload_n J.1 J.2.1 d_MD_run_1 rfl (lv_at hl 1 rfl) ?_
  replace h := g_bd h
  obtain ⟨r_5, q_5, h⟩ := h
  have hq := ct_MD_isGuest l E n0 n_base n_bound n_depth n_disk n_halted n_isThere n_labelAddress n_labelFrom n_labelSize n_made n_memory n_mode n_output n_outs n_pc n_ranOut n_register n_size n_steps n_tape n_timer n_typed n_waits n_wants s.heap.size ztaped zat zend zline zlabels zfault zfaultLine zisTold zaddress zmissing zgood zvalue zvalueFrom zvalueSize zme zisThere p1 r_5 q_5
  have hr := jrunV (p := p) (e := e) (below := below) (R := ({ frames := 4, cells := 0, slots := 0, locals := 110 })) (cells := 0) (slots := 0) (As := [.int p1]) (rest := []) J hJ hA hZ hP hD hS hq [0, 1] rfl (by decide) gl_MD_292 gi_MD_isGuest gsel_MD_isGuest gini_MD gc_MD_isGuest hd_MD_isGuest ⟨rfl, rfl, Nat.le_of_ble_eq_true rfl, Nat.le_of_ble_eq_true rfl⟩ rfl rfl hl.1 rfl rfl (Nat.le_of_ble_eq_true rfl) d_MD_run_2 ⟨Nat.zero_le _, Nat.zero_le _⟩
  clear hq
  refine jk_i hr hA hP hD hS [0, 1] [2, 3, 4, 5, 6, 7, 8, 9, 10, 11, 12, 13, 14, 15, 16, 17] (WR := [(n_size, .inl (E.2.1 0, 3, .inl zsize)), (n_memory, .inl (E.2.1 0, 3072, .inl zmemory)), (n_register, .inl (E.2.1 0, 24, .inl zregister)), (n_mode, .inl (E.2.1 0, 3, .inl zmode)), (n_pc, .inl (E.2.1 0, 3, .inl zpc)), (n_base, .inl (E.2.1 0, 3, .inl zbase)), (n_bound, .inl (E.2.1 0, 3, .inl zbound)), (n_timer, .inl (E.2.1 0, 3, .inl ztimer)), (n_ranOut, .inl (E.2.1 3, 3, .inl zranOut)), (n_halted, .inl (E.2.1 3, 3, .inl zhalted)), (n_steps, .inl (E.2.1 0, 3, .inl zsteps)), (n_outs, .inl (E.2.1 0, 3, .inl zouts)), (n_output, .inl (E.2.1 0, 1500, .inl zoutput)), (n_waits, .inl (E.2.1 0, 3, .inl zwaits)), (n_typed, .inl (E.2.1 0, 300, .inl ztyped)), (n_disk, .inl (E.2.1 0, 384, .inl zdisk))]) rfl rfl (by decide) (by decide) [16, 17, 0, 1, 2, 3, 4, 5, 6, 7, 8, 9, 10, 11, 12, 13, 14, 15] (WF := [(n0, .inr (6, [.ref n_tape, .int ztaped, .ref n_isThere, .ref n_size, .ref n_depth, .ref n_memory, .ref n_register, .ref n_mode, .ref n_pc, .ref n_base, .ref n_bound, .ref n_timer, .ref n_ranOut, .ref n_halted, .ref n_steps, .ref n_outs, .ref n_output, .ref n_waits, .ref n_typed, .ref n_disk, .ref n_wants, .int zat, .int zend, .int zline, .ref n_labelFrom, .ref n_labelSize, .ref n_labelAddress, .int zlabels, .int zfault, .int zfaultLine, .int zisTold, .int zaddress, .ref n_made, .int zmissing, .int zgood, .int zvalue, .int zvalueFrom, .int zvalueSize, .int zme])), (n_isThere, .inl (E.2.1 3, 3, .inl zisThere)), (n_size, .inl (E.2.1 0, 3, .inl zsize)), (n_memory, .inl (E.2.1 0, 3072, .inl zmemory)), (n_register, .inl (E.2.1 0, 24, .inl zregister)), (n_mode, .inl (E.2.1 0, 3, .inl zmode)), (n_pc, .inl (E.2.1 0, 3, .inl zpc)), (n_base, .inl (E.2.1 0, 3, .inl zbase)), (n_bound, .inl (E.2.1 0, 3, .inl zbound)), (n_timer, .inl (E.2.1 0, 3, .inl ztimer)), (n_ranOut, .inl (E.2.1 3, 3, .inl zranOut)), (n_halted, .inl (E.2.1 3, 3, .inl zhalted)), (n_steps, .inl (E.2.1 0, 3, .inl zsteps)), (n_outs, .inl (E.2.1 0, 3, .inl zouts)), (n_output, .inl (E.2.1 0, 1500, .inl zoutput)), (n_waits, .inl (E.2.1 0, 3, .inl zwaits)), (n_typed, .inl (E.2.1 0, 300, .inl ztyped)), (n_disk, .inl (E.2.1 0, 384, .inl zdisk))]) rfl (by decide) ?_
  clear hP hD hS
  intro H locs hP hD hS
  clear hr
  refine lv_if_eq (tgt := 19) J.1 J.2.1 d_MD_run_5 (by decide) (fun c_6 => ?_) (fun c_6 => ?_)
  · replace h := g_t c_6 h
    refine lv_iconst (v := (-1)) J.1 J.2.1 d_MD_run_19 (by decide) ?_
    have h := Option.some.inj h
    have e_0 := (Prod.mk.inj h).1
    have h := (Prod.mk.inj h).2
    have e_1 := (Prod.mk.inj h).1
    have h := (Prod.mk.inj h).2
    have e_2 := (Prod.mk.inj h).1
    have h := (Prod.mk.inj h).2
    have e_3 := (Prod.mk.inj h).1
    have h := (Prod.mk.inj h).2
    have e_4 := (Prod.mk.inj h).1
    have h := (Prod.mk.inj h).2
    have e_5 := (Prod.mk.inj h).1
    have h := (Prod.mk.inj h).2
    have e_6 := (Prod.mk.inj h).1
    have h := (Prod.mk.inj h).2
    have e_7 := (Prod.mk.inj h).1
    have h := (Prod.mk.inj h).2
    have e_8 := (Prod.mk.inj h).1
    have h := (Prod.mk.inj h).2
    have e_9 := (Prod.mk.inj h).1
    have h := (Prod.mk.inj h).2
    have e_10 := (Prod.mk.inj h).1
    have h := (Prod.mk.inj h).2
    have e_11 := (Prod.mk.inj h).1
    have h := (Prod.mk.inj h).2
    have e_12 := (Prod.mk.inj h).1
    have h := (Prod.mk.inj h).2
    have e_13 := (Prod.mk.inj h).1
    have h := (Prod.mk.inj h).2
    have e_14 := (Prod.mk.inj h).1
    have h := (Prod.mk.inj h).2
    have e_15 := (Prod.mk.inj h).1
    have h := (Prod.mk.inj h).2
    rw [← e_0, ← e_1, ← e_2, ← e_3, ← e_4, ← e_5, ← e_6, ← e_7, ← e_8, ← e_9, ← e_10, ← e_11, ← e_12, ← e_13, ← e_14, ← e_15, ← h]
    exact jr_i J hS hP hD rfl d_MD_run_20
  · replace h := g_f c_6 h
    refine lv_iload_n J.1 J.2.1 d_MD_run_8 rfl (lv_at hl 2 rfl) ?_
    refine lv_iconst (v := 0) J.1 J.2.1 d_MD_run_9 (by decide) ?_
    refine lv_sipush (v := 5000) J.1 J.2.1 d_MD_run_10 (by decide) ?_
    replace h := g_bd h
    obtain ⟨r_7, q_7, h⟩ := h
    have hq := ct_MD_in l E  H.size  p2 0 5000 r_7 q_7
    have hr := jrunS (p := p) (e := e) (below := below) (R := ({ frames := 4, cells := 0, slots := 0, locals := 110 })) (cells := 0) (slots := 0) (As := [.int p2, .int 0, .int 5000]) (rest := []) J hJ hA hZ hP hD hS hq [] rfl (by decide) gl_MD_246 gs_MD_in gini_MD gc_MD_in hd_MD_in ⟨rfl, rfl, Nat.le_of_ble_eq_true rfl, Nat.le_of_ble_eq_true rfl⟩ hl.1 rfl rfl (Nat.le_of_ble_eq_true rfl) d_MD_run_13 ⟨Nat.zero_le _, Nat.zero_le _⟩
    clear hq
    refine jk_i hr hA hP hD hS [] [0, 1, 2, 3, 4, 5, 6, 7, 8, 9, 10, 11, 12, 13, 14, 15, 16, 17] (WR := [(n0, .inr (6, [.ref n_tape, .int ztaped, .ref n_isThere, .ref n_size, .ref n_depth, .ref n_memory, .ref n_register, .ref n_mode, .ref n_pc, .ref n_base, .ref n_bound, .ref n_timer, .ref n_ranOut, .ref n_halted, .ref n_steps, .ref n_outs, .ref n_output, .ref n_waits, .ref n_typed, .ref n_disk, .ref n_wants, .int zat, .int zend, .int zline, .ref n_labelFrom, .ref n_labelSize, .ref n_labelAddress, .int zlabels, .int zfault, .int zfaultLine, .int zisTold, .int zaddress, .ref n_made, .int zmissing, .int zgood, .int zvalue, .int zvalueFrom, .int zvalueSize, .int zme])), (n_isThere, .inl (E.2.1 3, 3, .inl zisThere)), (n_size, .inl (E.2.1 0, 3, .inl zsize)), (n_memory, .inl (E.2.1 0, 3072, .inl zmemory)), (n_register, .inl (E.2.1 0, 24, .inl zregister)), (n_mode, .inl (E.2.1 0, 3, .inl zmode)), (n_pc, .inl (E.2.1 0, 3, .inl zpc)), (n_base, .inl (E.2.1 0, 3, .inl zbase)), (n_bound, .inl (E.2.1 0, 3, .inl zbound)), (n_timer, .inl (E.2.1 0, 3, .inl ztimer)), (n_ranOut, .inl (E.2.1 3, 3, .inl zranOut)), (n_halted, .inl (E.2.1 3, 3, .inl zhalted)), (n_steps, .inl (E.2.1 0, 3, .inl zsteps)), (n_outs, .inl (E.2.1 0, 3, .inl zouts)), (n_output, .inl (E.2.1 0, 1500, .inl zoutput)), (n_waits, .inl (E.2.1 0, 3, .inl zwaits)), (n_typed, .inl (E.2.1 0, 300, .inl ztyped)), (n_disk, .inl (E.2.1 0, 384, .inl zdisk))]) rfl rfl (by decide) (by decide) [0, 1, 2, 3, 4, 5, 6, 7, 8, 9, 10, 11, 12, 13, 14, 15, 16, 17] (WF := [(n0, .inr (6, [.ref n_tape, .int ztaped, .ref n_isThere, .ref n_size, .ref n_depth, .ref n_memory, .ref n_register, .ref n_mode, .ref n_pc, .ref n_base, .ref n_bound, .ref n_timer, .ref n_ranOut, .ref n_halted, .ref n_steps, .ref n_outs, .ref n_output, .ref n_waits, .ref n_typed, .ref n_disk, .ref n_wants, .int zat, .int zend, .int zline, .ref n_labelFrom, .ref n_labelSize, .ref n_labelAddress, .int zlabels, .int zfault, .int zfaultLine, .int zisTold, .int zaddress, .ref n_made, .int zmissing, .int zgood, .int zvalue, .int zvalueFrom, .int zvalueSize, .int zme])), (n_isThere, .inl (E.2.1 3, 3, .inl zisThere)), (n_size, .inl (E.2.1 0, 3, .inl zsize)), (n_memory, .inl (E.2.1 0, 3072, .inl zmemory)), (n_register, .inl (E.2.1 0, 24, .inl zregister)), (n_mode, .inl (E.2.1 0, 3, .inl zmode)), (n_pc, .inl (E.2.1 0, 3, .inl zpc)), (n_base, .inl (E.2.1 0, 3, .inl zbase)), (n_bound, .inl (E.2.1 0, 3, .inl zbound)), (n_timer, .inl (E.2.1 0, 3, .inl ztimer)), (n_ranOut, .inl (E.2.1 3, 3, .inl zranOut)), (n_halted, .inl (E.2.1 3, 3, .inl zhalted)), (n_steps, .inl (E.2.1 0, 3, .inl zsteps)), (n_outs, .inl (E.2.1 0, 3, .inl zouts)), (n_output, .inl (E.2.1 0, 1500, .inl zoutput)), (n_waits, .inl (E.2.1 0, 3, .inl zwaits)), (n_typed, .inl (E.2.1 0, 300, .inl ztyped)), (n_disk, .inl (E.2.1 0, 384, .inl zdisk))]) rfl (by decide) ?_
    clear hP hD hS
    intro H locs hP hD hS
    clear hr
    refine lv_if_ne (tgt := 21) J.1 J.2.1 d_MD_run_16 (by decide) (fun c_8 => ?_) (fun c_8 => ?_)
    · replace h := g_f c_8 h
      refine lv_aload_n J.1 J.2.1 d_MD_run_21 rfl (lv_at hl 0 rfl) ?_
      refine lv_iload_n J.1 J.2.1 d_MD_run_22 rfl (lv_at hl 1 rfl) ?_
      refine jp J hJ hP hD hS 0 rfl rfl i_MD t_MD t_MD_ok n_MD 38 (by decide) gf_MD_261 rfl rfl rfl (Nat.le_of_ble_eq_true rfl) d_MD_run_23 (WS' := [(n0, .inr (6, [.ref n_tape, .int ztaped, .ref n_isThere, .ref n_size, .ref n_depth, .ref n_memory, .ref n_register, .ref n_mode, .ref n_pc, .ref n_base, .ref n_bound, .ref n_timer, .ref n_ranOut, .ref n_halted, .ref n_steps, .ref n_outs, .ref n_output, .ref n_waits, .ref n_typed, .ref n_disk, .ref n_wants, .int zat, .int zend, .int zline, .ref n_labelFrom, .ref n_labelSize, .ref n_labelAddress, .int zlabels, .int zfault, .int zfaultLine, .int zisTold, .int zaddress, .ref n_made, .int zmissing, .int zgood, .int zvalue, .int zvalueFrom, .int zvalueSize, .int p1])), (n_isThere, .inl (E.2.1 3, 3, .inl zisThere)), (n_size, .inl (E.2.1 0, 3, .inl zsize)), (n_memory, .inl (E.2.1 0, 3072, .inl zmemory)), (n_register, .inl (E.2.1 0, 24, .inl zregister)), (n_mode, .inl (E.2.1 0, 3, .inl zmode)), (n_pc, .inl (E.2.1 0, 3, .inl zpc)), (n_base, .inl (E.2.1 0, 3, .inl zbase)), (n_bound, .inl (E.2.1 0, 3, .inl zbound)), (n_timer, .inl (E.2.1 0, 3, .inl ztimer)), (n_ranOut, .inl (E.2.1 3, 3, .inl zranOut)), (n_halted, .inl (E.2.1 3, 3, .inl zhalted)), (n_steps, .inl (E.2.1 0, 3, .inl zsteps)), (n_outs, .inl (E.2.1 0, 3, .inl zouts)), (n_output, .inl (E.2.1 0, 1500, .inl zoutput)), (n_waits, .inl (E.2.1 0, 3, .inl zwaits)), (n_typed, .inl (E.2.1 0, 300, .inl ztyped)), (n_disk, .inl (E.2.1 0, 384, .inl zdisk))]) rfl ?_
      clear hP hD hS
      intro H locs hP hD hS
      refine lv_iconst (v := 0) J.1 J.2.1 d_MD_run_26 (by decide) ?_
      refine lv_istore_n (lv' := [(3, .int 0), (0, .ref n0), (1, .int p1), (2, .int p2)]) J.1 J.2.1 d_MD_run_27 rfl hl (by decide) rfl ?_
      clear hl
      intro ls hl
      exact kb_MD_run_28 J hJ hA hZ _ _ _ _ _ _ _ _ _ _ _ _ _ _ _ _ _ _ _ _ _ _ _ _ _ _ _ _ _ _ _ _ _ _ _ _ _ _ _ h hP hD hS (lv_sub hl [1, 2, 3, 0] rfl)
    · replace h := g_t c_8 h
      refine lv_iconst (v := (-1)) J.1 J.2.1 d_MD_run_19 (by decide) ?_
      have h := Option.some.inj h
      have e_0 := (Prod.mk.inj h).1
      have h := (Prod.mk.inj h).2
      have e_1 := (Prod.mk.inj h).1
      have h := (Prod.mk.inj h).2
      have e_2 := (Prod.mk.inj h).1
      have h := (Prod.mk.inj h).2
      have e_3 := (Prod.mk.inj h).1
      have h := (Prod.mk.inj h).2
      have e_4 := (Prod.mk.inj h).1
      have h := (Prod.mk.inj h).2
      have e_5 := (Prod.mk.inj h).1
      have h := (Prod.mk.inj h).2
      have e_6 := (Prod.mk.inj h).1
      have h := (Prod.mk.inj h).2
      have e_7 := (Prod.mk.inj h).1
      have h := (Prod.mk.inj h).2
      have e_8 := (Prod.mk.inj h).1
      have h := (Prod.mk.inj h).2
      have e_9 := (Prod.mk.inj h).1
      have h := (Prod.mk.inj h).2
      have e_10 := (Prod.mk.inj h).1
      have h := (Prod.mk.inj h).2
      have e_11 := (Prod.mk.inj h).1
      have h := (Prod.mk.inj h).2
      have e_12 := (Prod.mk.inj h).1
      have h := (Prod.mk.inj h).2
      have e_13 := (Prod.mk.inj h).1
      have h := (Prod.mk.inj h).2
      have e_14 := (Prod.mk.inj h).1
      have h := (Prod.mk.inj h).2
      have e_15 := (Prod.mk.inj h).1
      have h := (Prod.mk.inj h).2
      rw [← e_0, ← e_1, ← e_2, ← e_3, ← e_4, ← e_5, ← e_6, ← e_7, ← e_8, ← e_9, ← e_10, ← e_11, ← e_12, ← e_13, ← e_14, ← e_15, ← h]
      exact jr_i J hS hP hD rfl d_MD_run_20

theorem hd_MD_type : y_MD_type.cls ≠ "java/lang/invoke/MethodHandle" ∧ y_MD_type.cls ≠ "java/lang/invoke/VarHandle" ∧ (parseMethodDescriptor y_MD_type.desc).map (fun d => d.parameters.length) = some 2 := by decide +kernel
def f_MD_type (zisThere : Nat → Int32) (zwaits : Nat → Int32) (ztyped : Nat → Int32) (p1 : Int32) (p2 : Int32) : Option (Int32 × (Nat → Int32) × (Nat → Int32)) := ((f_MD_isGuest zisThere p1).bind fun r_1 => (if r_1 = (0 : Int32) then (some (0, zwaits, ztyped)) else ((f_MD_in  p2 0 255).bind fun r_3 => (if r_3 = (0 : Int32) then (some (0, zwaits, ztyped)) else (if ck p1 3 then (if (zwaits p1.toNatClampNeg) = (100 : Int32) then (some (0, zwaits, ztyped)) else (if ck p1 3 then (if ck ((100 * p1) + (zwaits p1.toNatClampNeg)) 300 then (if ck p1 3 then (if ck p1 3 then (some (1, (upd zwaits p1.toNatClampNeg ((zwaits p1.toNatClampNeg) + 1)), (upd ztyped ((100 * p1) + (zwaits p1.toNatClampNeg)).toNatClampNeg p2))) else none) else none) else none) else none)) else none)))))
set_option maxHeartbeats 4000000 in
set_option maxRecDepth 100000 in
theorem ct_MD_type (l : Launch) (E : jz_E) (n0 n_base n_bound n_depth n_disk n_halted n_isThere n_labelAddress n_labelFrom n_labelSize n_made n_memory n_mode n_output n_outs n_pc n_ranOut n_register n_size n_steps n_tape n_timer n_typed n_waits n_wants : Nat) (sz : Nat) (ztaped : Int32) (zat : Int32) (zend : Int32) (zline : Int32) (zlabels : Int32) (zfault : Int32) (zfaultLine : Int32) (zisTold : Int32) (zaddress : Int32) (zmissing : Int32) (zgood : Int32) (zvalue : Int32) (zvalueFrom : Int32) (zvalueSize : Int32) (zme : Int32) (zisThere : Nat → Int32) (zwaits : Nat → Int32) (ztyped : Nat → Int32) (p1 : Int32) (p2 : Int32) (o_r : Int32) (o_zwaits : Nat → Int32) (o_ztyped : Nat → Int32)  (h : f_MD_type zisThere zwaits ztyped p1 p2 = some (o_r, o_zwaits, o_ztyped)) : CTi l E y_MD_type c_MD_type 3 (some .boolean) ({ frames := 2, cells := 0, slots := 0, locals := 43 }) [.ref n0, .int p1, .int p2] [(n0, .inr (6, [.ref n_tape, .int ztaped, .ref n_isThere, .ref n_size, .ref n_depth, .ref n_memory, .ref n_register, .ref n_mode, .ref n_pc, .ref n_base, .ref n_bound, .ref n_timer, .ref n_ranOut, .ref n_halted, .ref n_steps, .ref n_outs, .ref n_output, .ref n_waits, .ref n_typed, .ref n_disk, .ref n_wants, .int zat, .int zend, .int zline, .ref n_labelFrom, .ref n_labelSize, .ref n_labelAddress, .int zlabels, .int zfault, .int zfaultLine, .int zisTold, .int zaddress, .ref n_made, .int zmissing, .int zgood, .int zvalue, .int zvalueFrom, .int zvalueSize, .int zme])), (n_isThere, .inl (E.2.1 3, 3, .inl zisThere)), (n_waits, .inl (E.2.1 0, 3, .inl zwaits)), (n_typed, .inl (E.2.1 0, 300, .inl ztyped))] sz o_r [(n0, .inr (6, [.ref n_tape, .int ztaped, .ref n_isThere, .ref n_size, .ref n_depth, .ref n_memory, .ref n_register, .ref n_mode, .ref n_pc, .ref n_base, .ref n_bound, .ref n_timer, .ref n_ranOut, .ref n_halted, .ref n_steps, .ref n_outs, .ref n_output, .ref n_waits, .ref n_typed, .ref n_disk, .ref n_wants, .int zat, .int zend, .int zline, .ref n_labelFrom, .ref n_labelSize, .ref n_labelAddress, .int zlabels, .int zfault, .int zfaultLine, .int zisTold, .int zaddress, .ref n_made, .int zmissing, .int zgood, .int zvalue, .int zvalueFrom, .int zvalueSize, .int zme])), (n_isThere, .inl (E.2.1 3, 3, .inl zisThere)), (n_waits, .inl (E.2.1 0, 3, .inl o_zwaits)), (n_typed, .inl (E.2.1 0, 300, .inl o_ztyped))] := by
  refine jw (by decide +kernel) (Nat.le_of_ble_eq_true rfl) ?_
  intro p e s m below meth c A ls J hJ hAe hsz hA hZ hP hD hl
  rw [← hAe]
  have hS : va_S A s.heap s.heap [] := va_S.rf
  have hl : lv_has ls 3 [(0, .ref n0), (1, .int p1), (2, .int p2)] := hl
  unfold f_MD_type at h
  refine lv_aload_n J.1 J.2.1 d_MD_type_0 rfl (lv_at hl 0 rfl) ?_
  refine lv_iload_n J.1 J.2.1 d_MD_type_1 rfl (lv_at hl 1 rfl) ?_
  replace h := g_bd h
  obtain ⟨r_1, q_1, h⟩ := h
  have hq := ct_MD_isGuest l E n0 n_base n_bound n_depth n_disk n_halted n_isThere n_labelAddress n_labelFrom n_labelSize n_made n_memory n_mode n_output n_outs n_pc n_ranOut n_register n_size n_steps n_tape n_timer n_typed n_waits n_wants s.heap.size ztaped zat zend zline zlabels zfault zfaultLine zisTold zaddress zmissing zgood zvalue zvalueFrom zvalueSize zme zisThere p1 r_1 q_1
  have hr := jrunV (p := p) (e := e) (below := below) (R := ({ frames := 2, cells := 0, slots := 0, locals := 43 })) (cells := 0) (slots := 0) (As := [.int p1]) (rest := []) J hJ hA hZ hP hD hS hq [0, 1] rfl (by decide) gl_MD_292 gi_MD_isGuest gsel_MD_isGuest gini_MD gc_MD_isGuest hd_MD_isGuest ⟨rfl, rfl, Nat.le_of_ble_eq_true rfl, Nat.le_of_ble_eq_true rfl⟩ rfl rfl hl.1 rfl rfl (Nat.le_of_ble_eq_true rfl) d_MD_type_2 ⟨Nat.zero_le _, Nat.zero_le _⟩
  clear hq
  refine jk_i hr hA hP hD hS [0, 1] [2, 3] (WR := [(n_waits, .inl (E.2.1 0, 3, .inl zwaits)), (n_typed, .inl (E.2.1 0, 300, .inl ztyped))]) rfl rfl (by decide) (by decide) [2, 3, 0, 1] (WF := [(n0, .inr (6, [.ref n_tape, .int ztaped, .ref n_isThere, .ref n_size, .ref n_depth, .ref n_memory, .ref n_register, .ref n_mode, .ref n_pc, .ref n_base, .ref n_bound, .ref n_timer, .ref n_ranOut, .ref n_halted, .ref n_steps, .ref n_outs, .ref n_output, .ref n_waits, .ref n_typed, .ref n_disk, .ref n_wants, .int zat, .int zend, .int zline, .ref n_labelFrom, .ref n_labelSize, .ref n_labelAddress, .int zlabels, .int zfault, .int zfaultLine, .int zisTold, .int zaddress, .ref n_made, .int zmissing, .int zgood, .int zvalue, .int zvalueFrom, .int zvalueSize, .int zme])), (n_isThere, .inl (E.2.1 3, 3, .inl zisThere)), (n_waits, .inl (E.2.1 0, 3, .inl zwaits)), (n_typed, .inl (E.2.1 0, 300, .inl ztyped))]) rfl (by decide) ?_
  clear hP hD hS
  intro H locs hP hD hS
  clear hr
  refine lv_if_eq (tgt := 30) J.1 J.2.1 d_MD_type_5 (by decide) (fun c_2 => ?_) (fun c_2 => ?_)
  · replace h := g_t c_2 h
    refine lv_iconst (v := 0) J.1 J.2.1 d_MD_type_30 (by decide) ?_
    have h := Option.some.inj h
    have e_0 := (Prod.mk.inj h).1
    have h := (Prod.mk.inj h).2
    have e_1 := (Prod.mk.inj h).1
    have h := (Prod.mk.inj h).2
    rw [← e_0, ← e_1, ← h]
    exact jr_i J hS hP hD rfl d_MD_type_31
  · replace h := g_f c_2 h
    refine lv_iload_n J.1 J.2.1 d_MD_type_8 rfl (lv_at hl 2 rfl) ?_
    refine lv_iconst (v := 0) J.1 J.2.1 d_MD_type_9 (by decide) ?_
    refine lv_sipush (v := 255) J.1 J.2.1 d_MD_type_10 (by decide) ?_
    replace h := g_bd h
    obtain ⟨r_3, q_3, h⟩ := h
    have hq := ct_MD_in l E  H.size  p2 0 255 r_3 q_3
    have hr := jrunS (p := p) (e := e) (below := below) (R := ({ frames := 2, cells := 0, slots := 0, locals := 43 })) (cells := 0) (slots := 0) (As := [.int p2, .int 0, .int 255]) (rest := []) J hJ hA hZ hP hD hS hq [] rfl (by decide) gl_MD_246 gs_MD_in gini_MD gc_MD_in hd_MD_in ⟨rfl, rfl, Nat.le_of_ble_eq_true rfl, Nat.le_of_ble_eq_true rfl⟩ hl.1 rfl rfl (Nat.le_of_ble_eq_true rfl) d_MD_type_13 ⟨Nat.zero_le _, Nat.zero_le _⟩
    clear hq
    refine jk_i hr hA hP hD hS [] [0, 1, 2, 3] (WR := [(n0, .inr (6, [.ref n_tape, .int ztaped, .ref n_isThere, .ref n_size, .ref n_depth, .ref n_memory, .ref n_register, .ref n_mode, .ref n_pc, .ref n_base, .ref n_bound, .ref n_timer, .ref n_ranOut, .ref n_halted, .ref n_steps, .ref n_outs, .ref n_output, .ref n_waits, .ref n_typed, .ref n_disk, .ref n_wants, .int zat, .int zend, .int zline, .ref n_labelFrom, .ref n_labelSize, .ref n_labelAddress, .int zlabels, .int zfault, .int zfaultLine, .int zisTold, .int zaddress, .ref n_made, .int zmissing, .int zgood, .int zvalue, .int zvalueFrom, .int zvalueSize, .int zme])), (n_isThere, .inl (E.2.1 3, 3, .inl zisThere)), (n_waits, .inl (E.2.1 0, 3, .inl zwaits)), (n_typed, .inl (E.2.1 0, 300, .inl ztyped))]) rfl rfl (by decide) (by decide) [0, 1, 2, 3] (WF := [(n0, .inr (6, [.ref n_tape, .int ztaped, .ref n_isThere, .ref n_size, .ref n_depth, .ref n_memory, .ref n_register, .ref n_mode, .ref n_pc, .ref n_base, .ref n_bound, .ref n_timer, .ref n_ranOut, .ref n_halted, .ref n_steps, .ref n_outs, .ref n_output, .ref n_waits, .ref n_typed, .ref n_disk, .ref n_wants, .int zat, .int zend, .int zline, .ref n_labelFrom, .ref n_labelSize, .ref n_labelAddress, .int zlabels, .int zfault, .int zfaultLine, .int zisTold, .int zaddress, .ref n_made, .int zmissing, .int zgood, .int zvalue, .int zvalueFrom, .int zvalueSize, .int zme])), (n_isThere, .inl (E.2.1 3, 3, .inl zisThere)), (n_waits, .inl (E.2.1 0, 3, .inl zwaits)), (n_typed, .inl (E.2.1 0, 300, .inl ztyped))]) rfl (by decide) ?_
    clear hP hD hS
    intro H locs hP hD hS
    clear hr
    refine lv_if_eq (tgt := 30) J.1 J.2.1 d_MD_type_16 (by decide) (fun c_4 => ?_) (fun c_4 => ?_)
    · replace h := g_t c_4 h
      refine lv_iconst (v := 0) J.1 J.2.1 d_MD_type_30 (by decide) ?_
      have h := Option.some.inj h
      have e_0 := (Prod.mk.inj h).1
      have h := (Prod.mk.inj h).2
      have e_1 := (Prod.mk.inj h).1
      have h := (Prod.mk.inj h).2
      rw [← e_0, ← e_1, ← h]
      exact jr_i J hS hP hD rfl d_MD_type_31
    · replace h := g_f c_4 h
      refine lv_aload_n J.1 J.2.1 d_MD_type_19 rfl (lv_at hl 0 rfl) ?_
      refine jg J hJ hP 0 rfl rfl i_MD 17 (by decide) gf_MD_68 rfl d_MD_type_20 ?_
      refine lv_iload_n J.1 J.2.1 d_MD_type_23 rfl (lv_at hl 1 rfl) ?_
      replace h := g_ck h
      obtain ⟨k_5, h⟩ := h
      refine jai J hJ hP 2 rfl k_5 d_MD_type_24 ?_
      refine lv_bipush (v := 100) J.1 J.2.1 d_MD_type_25 (by decide) ?_
      refine lv_icmp_ne (tgt := 32) J.1 J.2.1 d_MD_type_27 (by decide) (fun c_6 => ?_) (fun c_6 => ?_)
      · replace h := g_f c_6 h
        refine lv_aload_n J.1 J.2.1 d_MD_type_32 rfl (lv_at hl 0 rfl) ?_
        refine jg J hJ hP 0 rfl rfl i_MD 18 (by decide) gf_MD_71 rfl d_MD_type_33 ?_
        refine lv_bipush (v := 100) J.1 J.2.1 d_MD_type_36 (by decide) ?_
        refine lv_iload_n J.1 J.2.1 d_MD_type_38 rfl (lv_at hl 1 rfl) ?_
        refine lv_imul J.1 J.2.1 d_MD_type_39 ?_
        refine lv_aload_n J.1 J.2.1 d_MD_type_40 rfl (lv_at hl 0 rfl) ?_
        refine jg J hJ hP 0 rfl rfl i_MD 17 (by decide) gf_MD_68 rfl d_MD_type_41 ?_
        refine lv_iload_n J.1 J.2.1 d_MD_type_44 rfl (lv_at hl 1 rfl) ?_
        replace h := g_ck h
        obtain ⟨k_7, h⟩ := h
        refine jai J hJ hP 2 rfl k_7 d_MD_type_45 ?_
        refine lv_iadd J.1 J.2.1 d_MD_type_46 ?_
        refine lv_iload_n J.1 J.2.1 d_MD_type_47 rfl (lv_at hl 2 rfl) ?_
        replace h := g_ck h
        obtain ⟨k_8, h⟩ := h
        refine jsi J hJ hP hD hS 3 rfl k_8 d_MD_type_48 (WS' := [(n0, .inr (6, [.ref n_tape, .int ztaped, .ref n_isThere, .ref n_size, .ref n_depth, .ref n_memory, .ref n_register, .ref n_mode, .ref n_pc, .ref n_base, .ref n_bound, .ref n_timer, .ref n_ranOut, .ref n_halted, .ref n_steps, .ref n_outs, .ref n_output, .ref n_waits, .ref n_typed, .ref n_disk, .ref n_wants, .int zat, .int zend, .int zline, .ref n_labelFrom, .ref n_labelSize, .ref n_labelAddress, .int zlabels, .int zfault, .int zfaultLine, .int zisTold, .int zaddress, .ref n_made, .int zmissing, .int zgood, .int zvalue, .int zvalueFrom, .int zvalueSize, .int zme])), (n_isThere, .inl (E.2.1 3, 3, .inl zisThere)), (n_waits, .inl (E.2.1 0, 3, .inl zwaits)), (n_typed, .inl (E.2.1 0, 300, .inl (upd ztyped ((100 * p1) + (zwaits p1.toNatClampNeg)).toNatClampNeg p2)))]) rfl ?_
        clear hP hD hS
        intro H locs hP hD hS
        refine lv_aload_n J.1 J.2.1 d_MD_type_49 rfl (lv_at hl 0 rfl) ?_
        refine jg J hJ hP 0 rfl rfl i_MD 17 (by decide) gf_MD_68 rfl d_MD_type_50 ?_
        refine lv_iload_n J.1 J.2.1 d_MD_type_53 rfl (lv_at hl 1 rfl) ?_
        refine lv_dup2_11 J.1 J.2.1 d_MD_type_54 rfl rfl ?_
        replace h := g_ck h
        obtain ⟨k_9, h⟩ := h
        refine jai J hJ hP 2 rfl k_9 d_MD_type_55 ?_
        refine lv_iconst (v := 1) J.1 J.2.1 d_MD_type_56 (by decide) ?_
        refine lv_iadd J.1 J.2.1 d_MD_type_57 ?_
        replace h := g_ck h
        obtain ⟨k_10, h⟩ := h
        refine jsi J hJ hP hD hS 2 rfl k_10 d_MD_type_58 (WS' := [(n0, .inr (6, [.ref n_tape, .int ztaped, .ref n_isThere, .ref n_size, .ref n_depth, .ref n_memory, .ref n_register, .ref n_mode, .ref n_pc, .ref n_base, .ref n_bound, .ref n_timer, .ref n_ranOut, .ref n_halted, .ref n_steps, .ref n_outs, .ref n_output, .ref n_waits, .ref n_typed, .ref n_disk, .ref n_wants, .int zat, .int zend, .int zline, .ref n_labelFrom, .ref n_labelSize, .ref n_labelAddress, .int zlabels, .int zfault, .int zfaultLine, .int zisTold, .int zaddress, .ref n_made, .int zmissing, .int zgood, .int zvalue, .int zvalueFrom, .int zvalueSize, .int zme])), (n_isThere, .inl (E.2.1 3, 3, .inl zisThere)), (n_waits, .inl (E.2.1 0, 3, .inl (upd zwaits p1.toNatClampNeg ((zwaits p1.toNatClampNeg) + 1)))), (n_typed, .inl (E.2.1 0, 300, .inl (upd ztyped ((100 * p1) + (zwaits p1.toNatClampNeg)).toNatClampNeg p2)))]) rfl ?_
        clear hP hD hS
        intro H locs hP hD hS
        refine lv_iconst (v := 1) J.1 J.2.1 d_MD_type_59 (by decide) ?_
        have h := Option.some.inj h
        have e_0 := (Prod.mk.inj h).1
        have h := (Prod.mk.inj h).2
        have e_1 := (Prod.mk.inj h).1
        have h := (Prod.mk.inj h).2
        rw [← e_0, ← e_1, ← h]
        exact jr_i J hS hP hD rfl d_MD_type_60
      · replace h := g_t c_6 h
        refine lv_iconst (v := 0) J.1 J.2.1 d_MD_type_30 (by decide) ?_
        have h := Option.some.inj h
        have e_0 := (Prod.mk.inj h).1
        have h := (Prod.mk.inj h).2
        have e_1 := (Prod.mk.inj h).1
        have h := (Prod.mk.inj h).2
        rw [← e_0, ← e_1, ← h]
        exact jr_i J hS hP hD rfl d_MD_type_31

theorem hd_MD_look : y_MD_look.cls ≠ "java/lang/invoke/MethodHandle" ∧ y_MD_look.cls ≠ "java/lang/invoke/VarHandle" ∧ (parseMethodDescriptor y_MD_look.desc).map (fun d => d.parameters.length) = some 2 := by decide +kernel
def f_MD_look (zisThere : Nat → Int32) (zsize : Nat → Int32) (zdepth : Nat → Int32) (zregister : Nat → Int32) (zmode : Nat → Int32) (zpc : Nat → Int32) (zbase : Nat → Int32) (zbound : Nat → Int32) (ztimer : Nat → Int32) (zranOut : Nat → Int32) (zhalted : Nat → Int32) (zsteps : Nat → Int32) (zouts : Nat → Int32) (zwaits : Nat → Int32) (p1 : Int32) (p2 : Int32) : Option (Int32) := ((f_MD_isGuest zisThere p1).bind fun r_1 => (if r_1 = (0 : Int32) then (some (-1)) else (if (p2) = 0 then (if ck p1 3 then (some (zmode p1.toNatClampNeg)) else none) else (if (p2) = 1 then (if ck p1 3 then (some (zpc p1.toNatClampNeg)) else none) else (if (p2) = 2 then (if ck p1 3 then (some (zbase p1.toNatClampNeg)) else none) else (if (p2) = 3 then (if ck p1 3 then (some (zbound p1.toNatClampNeg)) else none) else (if (p2) = 4 then (if ck p1 3 then (some (ztimer p1.toNatClampNeg)) else none) else (if (p2) = 5 then (if ck p1 3 then (if (zranOut p1.toNatClampNeg) = (0 : Int32) then (some 0) else (some 1)) else none) else (if (p2) = 6 then (if ck p1 3 then (if (zhalted p1.toNatClampNeg) = (0 : Int32) then (some 0) else (some 1)) else none) else (if (p2) = 7 then (if ck p1 3 then (some (zsteps p1.toNatClampNeg)) else none) else (if (p2) = 8 then (if ck p1 3 then (some (zouts p1.toNatClampNeg)) else none) else (if (p2) = 9 then (if ck p1 3 then (some (zwaits p1.toNatClampNeg)) else none) else (if (p2) = 10 then (if ck p1 3 then (some (zsize p1.toNatClampNeg)) else none) else (if (p2) = 11 then (if ck p1 3 then (some (zdepth p1.toNatClampNeg)) else none) else ((f_MD_in  p2 20 27).bind fun r_29 => (if r_29 = (0 : Int32) then (some (-1)) else (if ck (((8 * p1) + p2) - 20) 24 then (some (zregister (((8 * p1) + p2) - 20).toNatClampNeg)) else none)))))))))))))))))
set_option maxHeartbeats 4000000 in
set_option maxRecDepth 100000 in
theorem ct_MD_look (l : Launch) (E : jz_E) (n0 n_base n_bound n_depth n_disk n_halted n_isThere n_labelAddress n_labelFrom n_labelSize n_made n_memory n_mode n_output n_outs n_pc n_ranOut n_register n_size n_steps n_tape n_timer n_typed n_waits n_wants : Nat) (sz : Nat) (ztaped : Int32) (zat : Int32) (zend : Int32) (zline : Int32) (zlabels : Int32) (zfault : Int32) (zfaultLine : Int32) (zisTold : Int32) (zaddress : Int32) (zmissing : Int32) (zgood : Int32) (zvalue : Int32) (zvalueFrom : Int32) (zvalueSize : Int32) (zme : Int32) (zisThere : Nat → Int32) (zsize : Nat → Int32) (zdepth : Nat → Int32) (zregister : Nat → Int32) (zmode : Nat → Int32) (zpc : Nat → Int32) (zbase : Nat → Int32) (zbound : Nat → Int32) (ztimer : Nat → Int32) (zranOut : Nat → Int32) (zhalted : Nat → Int32) (zsteps : Nat → Int32) (zouts : Nat → Int32) (zwaits : Nat → Int32) (p1 : Int32) (p2 : Int32) (o_r : Int32)  (h : f_MD_look zisThere zsize zdepth zregister zmode zpc zbase zbound ztimer zranOut zhalted zsteps zouts zwaits p1 p2 = some o_r) : CTi l E y_MD_look c_MD_look 3 (some .int) ({ frames := 2, cells := 0, slots := 0, locals := 43 }) [.ref n0, .int p1, .int p2] [(n0, .inr (6, [.ref n_tape, .int ztaped, .ref n_isThere, .ref n_size, .ref n_depth, .ref n_memory, .ref n_register, .ref n_mode, .ref n_pc, .ref n_base, .ref n_bound, .ref n_timer, .ref n_ranOut, .ref n_halted, .ref n_steps, .ref n_outs, .ref n_output, .ref n_waits, .ref n_typed, .ref n_disk, .ref n_wants, .int zat, .int zend, .int zline, .ref n_labelFrom, .ref n_labelSize, .ref n_labelAddress, .int zlabels, .int zfault, .int zfaultLine, .int zisTold, .int zaddress, .ref n_made, .int zmissing, .int zgood, .int zvalue, .int zvalueFrom, .int zvalueSize, .int zme])), (n_isThere, .inl (E.2.1 3, 3, .inl zisThere)), (n_size, .inl (E.2.1 0, 3, .inl zsize)), (n_depth, .inl (E.2.1 0, 3, .inl zdepth)), (n_register, .inl (E.2.1 0, 24, .inl zregister)), (n_mode, .inl (E.2.1 0, 3, .inl zmode)), (n_pc, .inl (E.2.1 0, 3, .inl zpc)), (n_base, .inl (E.2.1 0, 3, .inl zbase)), (n_bound, .inl (E.2.1 0, 3, .inl zbound)), (n_timer, .inl (E.2.1 0, 3, .inl ztimer)), (n_ranOut, .inl (E.2.1 3, 3, .inl zranOut)), (n_halted, .inl (E.2.1 3, 3, .inl zhalted)), (n_steps, .inl (E.2.1 0, 3, .inl zsteps)), (n_outs, .inl (E.2.1 0, 3, .inl zouts)), (n_waits, .inl (E.2.1 0, 3, .inl zwaits))] sz o_r [(n0, .inr (6, [.ref n_tape, .int ztaped, .ref n_isThere, .ref n_size, .ref n_depth, .ref n_memory, .ref n_register, .ref n_mode, .ref n_pc, .ref n_base, .ref n_bound, .ref n_timer, .ref n_ranOut, .ref n_halted, .ref n_steps, .ref n_outs, .ref n_output, .ref n_waits, .ref n_typed, .ref n_disk, .ref n_wants, .int zat, .int zend, .int zline, .ref n_labelFrom, .ref n_labelSize, .ref n_labelAddress, .int zlabels, .int zfault, .int zfaultLine, .int zisTold, .int zaddress, .ref n_made, .int zmissing, .int zgood, .int zvalue, .int zvalueFrom, .int zvalueSize, .int zme])), (n_isThere, .inl (E.2.1 3, 3, .inl zisThere)), (n_size, .inl (E.2.1 0, 3, .inl zsize)), (n_depth, .inl (E.2.1 0, 3, .inl zdepth)), (n_register, .inl (E.2.1 0, 24, .inl zregister)), (n_mode, .inl (E.2.1 0, 3, .inl zmode)), (n_pc, .inl (E.2.1 0, 3, .inl zpc)), (n_base, .inl (E.2.1 0, 3, .inl zbase)), (n_bound, .inl (E.2.1 0, 3, .inl zbound)), (n_timer, .inl (E.2.1 0, 3, .inl ztimer)), (n_ranOut, .inl (E.2.1 3, 3, .inl zranOut)), (n_halted, .inl (E.2.1 3, 3, .inl zhalted)), (n_steps, .inl (E.2.1 0, 3, .inl zsteps)), (n_outs, .inl (E.2.1 0, 3, .inl zouts)), (n_waits, .inl (E.2.1 0, 3, .inl zwaits))] := by
  refine jw (by decide +kernel) (Nat.le_of_ble_eq_true rfl) ?_
  intro p e s m below meth c A ls J hJ hAe hsz hA hZ hP hD hl
  rw [← hAe]
  have hS : va_S A s.heap s.heap [] := va_S.rf
  have hl : lv_has ls 3 [(0, .ref n0), (1, .int p1), (2, .int p2)] := hl
  unfold f_MD_look at h
  refine lv_aload_n J.1 J.2.1 d_MD_look_0 rfl (lv_at hl 0 rfl) ?_
  refine lv_iload_n J.1 J.2.1 d_MD_look_1 rfl (lv_at hl 1 rfl) ?_
  replace h := g_bd h
  obtain ⟨r_1, q_1, h⟩ := h
  have hq := ct_MD_isGuest l E n0 n_base n_bound n_depth n_disk n_halted n_isThere n_labelAddress n_labelFrom n_labelSize n_made n_memory n_mode n_output n_outs n_pc n_ranOut n_register n_size n_steps n_tape n_timer n_typed n_waits n_wants s.heap.size ztaped zat zend zline zlabels zfault zfaultLine zisTold zaddress zmissing zgood zvalue zvalueFrom zvalueSize zme zisThere p1 r_1 q_1
  have hr := jrunV (p := p) (e := e) (below := below) (R := ({ frames := 2, cells := 0, slots := 0, locals := 43 })) (cells := 0) (slots := 0) (As := [.int p1]) (rest := []) J hJ hA hZ hP hD hS hq [0, 1] rfl (by decide) gl_MD_292 gi_MD_isGuest gsel_MD_isGuest gini_MD gc_MD_isGuest hd_MD_isGuest ⟨rfl, rfl, Nat.le_of_ble_eq_true rfl, Nat.le_of_ble_eq_true rfl⟩ rfl rfl hl.1 rfl rfl (Nat.le_of_ble_eq_true rfl) d_MD_look_2 ⟨Nat.zero_le _, Nat.zero_le _⟩
  clear hq
  refine jk_i hr hA hP hD hS [0, 1] [2, 3, 4, 5, 6, 7, 8, 9, 10, 11, 12, 13, 14] (WR := [(n_size, .inl (E.2.1 0, 3, .inl zsize)), (n_depth, .inl (E.2.1 0, 3, .inl zdepth)), (n_register, .inl (E.2.1 0, 24, .inl zregister)), (n_mode, .inl (E.2.1 0, 3, .inl zmode)), (n_pc, .inl (E.2.1 0, 3, .inl zpc)), (n_base, .inl (E.2.1 0, 3, .inl zbase)), (n_bound, .inl (E.2.1 0, 3, .inl zbound)), (n_timer, .inl (E.2.1 0, 3, .inl ztimer)), (n_ranOut, .inl (E.2.1 3, 3, .inl zranOut)), (n_halted, .inl (E.2.1 3, 3, .inl zhalted)), (n_steps, .inl (E.2.1 0, 3, .inl zsteps)), (n_outs, .inl (E.2.1 0, 3, .inl zouts)), (n_waits, .inl (E.2.1 0, 3, .inl zwaits))]) rfl rfl (by decide) (by decide) [13, 14, 0, 1, 2, 3, 4, 5, 6, 7, 8, 9, 10, 11, 12] (WF := [(n0, .inr (6, [.ref n_tape, .int ztaped, .ref n_isThere, .ref n_size, .ref n_depth, .ref n_memory, .ref n_register, .ref n_mode, .ref n_pc, .ref n_base, .ref n_bound, .ref n_timer, .ref n_ranOut, .ref n_halted, .ref n_steps, .ref n_outs, .ref n_output, .ref n_waits, .ref n_typed, .ref n_disk, .ref n_wants, .int zat, .int zend, .int zline, .ref n_labelFrom, .ref n_labelSize, .ref n_labelAddress, .int zlabels, .int zfault, .int zfaultLine, .int zisTold, .int zaddress, .ref n_made, .int zmissing, .int zgood, .int zvalue, .int zvalueFrom, .int zvalueSize, .int zme])), (n_isThere, .inl (E.2.1 3, 3, .inl zisThere)), (n_size, .inl (E.2.1 0, 3, .inl zsize)), (n_depth, .inl (E.2.1 0, 3, .inl zdepth)), (n_register, .inl (E.2.1 0, 24, .inl zregister)), (n_mode, .inl (E.2.1 0, 3, .inl zmode)), (n_pc, .inl (E.2.1 0, 3, .inl zpc)), (n_base, .inl (E.2.1 0, 3, .inl zbase)), (n_bound, .inl (E.2.1 0, 3, .inl zbound)), (n_timer, .inl (E.2.1 0, 3, .inl ztimer)), (n_ranOut, .inl (E.2.1 3, 3, .inl zranOut)), (n_halted, .inl (E.2.1 3, 3, .inl zhalted)), (n_steps, .inl (E.2.1 0, 3, .inl zsteps)), (n_outs, .inl (E.2.1 0, 3, .inl zouts)), (n_waits, .inl (E.2.1 0, 3, .inl zwaits))]) rfl (by decide) ?_
  clear hP hD hS
  intro H locs hP hD hS
  clear hr
  refine lv_if_ne (tgt := 10) J.1 J.2.1 d_MD_look_5 (by decide) (fun c_2 => ?_) (fun c_2 => ?_)
  · replace h := g_f c_2 h
    refine lv_iload_n J.1 J.2.1 d_MD_look_10 rfl (lv_at hl 2 rfl) ?_
    by_cases c_3 : (p2) = 0
    · replace h := g_t c_3 h
      refine lv_tableIn (off := 61) (tgt := 72) J.1 J.2.1 d_MD_look_11 (by rw [c_3]; decide) (by rw [c_3]; decide) (by rw [c_3]; rfl) (by decide) ?_
      refine lv_aload_n J.1 J.2.1 d_MD_look_72 rfl (lv_at hl 0 rfl) ?_
      refine jg J hJ hP 0 rfl rfl i_MD 7 (by decide) gf_MD_38 rfl d_MD_look_73 ?_
      refine lv_iload_n J.1 J.2.1 d_MD_look_76 rfl (lv_at hl 1 rfl) ?_
      replace h := g_ck h
      obtain ⟨k_4, h⟩ := h
      refine jai J hJ hP 5 rfl k_4 d_MD_look_77 ?_
      have h := Option.some.inj h
      rw [← h]
      exact jr_i J hS hP hD rfl d_MD_look_78
    replace h := g_f c_3 h
    by_cases c_5 : (p2) = 1
    · replace h := g_t c_5 h
      refine lv_tableIn (off := 68) (tgt := 79) J.1 J.2.1 d_MD_look_11 (by rw [c_5]; decide) (by rw [c_5]; decide) (by rw [c_5]; rfl) (by decide) ?_
      refine lv_aload_n J.1 J.2.1 d_MD_look_79 rfl (lv_at hl 0 rfl) ?_
      refine jg J hJ hP 0 rfl rfl i_MD 8 (by decide) gf_MD_41 rfl d_MD_look_80 ?_
      refine lv_iload_n J.1 J.2.1 d_MD_look_83 rfl (lv_at hl 1 rfl) ?_
      replace h := g_ck h
      obtain ⟨k_6, h⟩ := h
      refine jai J hJ hP 6 rfl k_6 d_MD_look_84 ?_
      have h := Option.some.inj h
      rw [← h]
      exact jr_i J hS hP hD rfl d_MD_look_85
    replace h := g_f c_5 h
    by_cases c_7 : (p2) = 2
    · replace h := g_t c_7 h
      refine lv_tableIn (off := 75) (tgt := 86) J.1 J.2.1 d_MD_look_11 (by rw [c_7]; decide) (by rw [c_7]; decide) (by rw [c_7]; rfl) (by decide) ?_
      refine lv_aload_n J.1 J.2.1 d_MD_look_86 rfl (lv_at hl 0 rfl) ?_
      refine jg J hJ hP 0 rfl rfl i_MD 9 (by decide) gf_MD_44 rfl d_MD_look_87 ?_
      refine lv_iload_n J.1 J.2.1 d_MD_look_90 rfl (lv_at hl 1 rfl) ?_
      replace h := g_ck h
      obtain ⟨k_8, h⟩ := h
      refine jai J hJ hP 7 rfl k_8 d_MD_look_91 ?_
      have h := Option.some.inj h
      rw [← h]
      exact jr_i J hS hP hD rfl d_MD_look_92
    replace h := g_f c_7 h
    by_cases c_9 : (p2) = 3
    · replace h := g_t c_9 h
      refine lv_tableIn (off := 82) (tgt := 93) J.1 J.2.1 d_MD_look_11 (by rw [c_9]; decide) (by rw [c_9]; decide) (by rw [c_9]; rfl) (by decide) ?_
      refine lv_aload_n J.1 J.2.1 d_MD_look_93 rfl (lv_at hl 0 rfl) ?_
      refine jg J hJ hP 0 rfl rfl i_MD 10 (by decide) gf_MD_47 rfl d_MD_look_94 ?_
      refine lv_iload_n J.1 J.2.1 d_MD_look_97 rfl (lv_at hl 1 rfl) ?_
      replace h := g_ck h
      obtain ⟨k_10, h⟩ := h
      refine jai J hJ hP 8 rfl k_10 d_MD_look_98 ?_
      have h := Option.some.inj h
      rw [← h]
      exact jr_i J hS hP hD rfl d_MD_look_99
    replace h := g_f c_9 h
    by_cases c_11 : (p2) = 4
    · replace h := g_t c_11 h
      refine lv_tableIn (off := 89) (tgt := 100) J.1 J.2.1 d_MD_look_11 (by rw [c_11]; decide) (by rw [c_11]; decide) (by rw [c_11]; rfl) (by decide) ?_
      refine lv_aload_n J.1 J.2.1 d_MD_look_100 rfl (lv_at hl 0 rfl) ?_
      refine jg J hJ hP 0 rfl rfl i_MD 11 (by decide) gf_MD_50 rfl d_MD_look_101 ?_
      refine lv_iload_n J.1 J.2.1 d_MD_look_104 rfl (lv_at hl 1 rfl) ?_
      replace h := g_ck h
      obtain ⟨k_12, h⟩ := h
      refine jai J hJ hP 9 rfl k_12 d_MD_look_105 ?_
      have h := Option.some.inj h
      rw [← h]
      exact jr_i J hS hP hD rfl d_MD_look_106
    replace h := g_f c_11 h
    by_cases c_13 : (p2) = 5
    · replace h := g_t c_13 h
      refine lv_tableIn (off := 96) (tgt := 107) J.1 J.2.1 d_MD_look_11 (by rw [c_13]; decide) (by rw [c_13]; decide) (by rw [c_13]; rfl) (by decide) ?_
      refine lv_aload_n J.1 J.2.1 d_MD_look_107 rfl (lv_at hl 0 rfl) ?_
      refine jg J hJ hP 0 rfl rfl i_MD 12 (by decide) gf_MD_53 rfl d_MD_look_108 ?_
      refine lv_iload_n J.1 J.2.1 d_MD_look_111 rfl (lv_at hl 1 rfl) ?_
      replace h := g_ck h
      obtain ⟨k_14, h⟩ := h
      refine va_zald J.1 J.2.1 hJ.1 hP 10 3 rfl rfl k_14 d_MD_look_112 ?_
      refine lv_if_eq (tgt := 120) J.1 J.2.1 d_MD_look_113 (by decide) (fun c_15 => ?_) (fun c_15 => ?_)
      · replace h := g_t c_15 h
        refine lv_iconst (v := 0) J.1 J.2.1 d_MD_look_120 (by decide) ?_
        have h := Option.some.inj h
        rw [← h]
        exact jr_i J hS hP hD rfl d_MD_look_121
      · replace h := g_f c_15 h
        refine lv_iconst (v := 1) J.1 J.2.1 d_MD_look_116 (by decide) ?_
        refine lv_goto (tgt := 121) J.1 J.2.1 d_MD_look_117 (by decide) ?_
        have h := Option.some.inj h
        rw [← h]
        exact jr_i J hS hP hD rfl d_MD_look_121
    replace h := g_f c_13 h
    by_cases c_16 : (p2) = 6
    · replace h := g_t c_16 h
      refine lv_tableIn (off := 111) (tgt := 122) J.1 J.2.1 d_MD_look_11 (by rw [c_16]; decide) (by rw [c_16]; decide) (by rw [c_16]; rfl) (by decide) ?_
      refine lv_aload_n J.1 J.2.1 d_MD_look_122 rfl (lv_at hl 0 rfl) ?_
      refine jg J hJ hP 0 rfl rfl i_MD 13 (by decide) gf_MD_56 rfl d_MD_look_123 ?_
      refine lv_iload_n J.1 J.2.1 d_MD_look_126 rfl (lv_at hl 1 rfl) ?_
      replace h := g_ck h
      obtain ⟨k_17, h⟩ := h
      refine va_zald J.1 J.2.1 hJ.1 hP 11 3 rfl rfl k_17 d_MD_look_127 ?_
      refine lv_if_eq (tgt := 135) J.1 J.2.1 d_MD_look_128 (by decide) (fun c_18 => ?_) (fun c_18 => ?_)
      · replace h := g_t c_18 h
        refine lv_iconst (v := 0) J.1 J.2.1 d_MD_look_135 (by decide) ?_
        have h := Option.some.inj h
        rw [← h]
        exact jr_i J hS hP hD rfl d_MD_look_136
      · replace h := g_f c_18 h
        refine lv_iconst (v := 1) J.1 J.2.1 d_MD_look_131 (by decide) ?_
        refine lv_goto (tgt := 136) J.1 J.2.1 d_MD_look_132 (by decide) ?_
        have h := Option.some.inj h
        rw [← h]
        exact jr_i J hS hP hD rfl d_MD_look_136
    replace h := g_f c_16 h
    by_cases c_19 : (p2) = 7
    · replace h := g_t c_19 h
      refine lv_tableIn (off := 126) (tgt := 137) J.1 J.2.1 d_MD_look_11 (by rw [c_19]; decide) (by rw [c_19]; decide) (by rw [c_19]; rfl) (by decide) ?_
      refine lv_aload_n J.1 J.2.1 d_MD_look_137 rfl (lv_at hl 0 rfl) ?_
      refine jg J hJ hP 0 rfl rfl i_MD 14 (by decide) gf_MD_59 rfl d_MD_look_138 ?_
      refine lv_iload_n J.1 J.2.1 d_MD_look_141 rfl (lv_at hl 1 rfl) ?_
      replace h := g_ck h
      obtain ⟨k_20, h⟩ := h
      refine jai J hJ hP 12 rfl k_20 d_MD_look_142 ?_
      have h := Option.some.inj h
      rw [← h]
      exact jr_i J hS hP hD rfl d_MD_look_143
    replace h := g_f c_19 h
    by_cases c_21 : (p2) = 8
    · replace h := g_t c_21 h
      refine lv_tableIn (off := 133) (tgt := 144) J.1 J.2.1 d_MD_look_11 (by rw [c_21]; decide) (by rw [c_21]; decide) (by rw [c_21]; rfl) (by decide) ?_
      refine lv_aload_n J.1 J.2.1 d_MD_look_144 rfl (lv_at hl 0 rfl) ?_
      refine jg J hJ hP 0 rfl rfl i_MD 15 (by decide) gf_MD_62 rfl d_MD_look_145 ?_
      refine lv_iload_n J.1 J.2.1 d_MD_look_148 rfl (lv_at hl 1 rfl) ?_
      replace h := g_ck h
      obtain ⟨k_22, h⟩ := h
      refine jai J hJ hP 13 rfl k_22 d_MD_look_149 ?_
      have h := Option.some.inj h
      rw [← h]
      exact jr_i J hS hP hD rfl d_MD_look_150
    replace h := g_f c_21 h
    by_cases c_23 : (p2) = 9
    · replace h := g_t c_23 h
      refine lv_tableIn (off := 140) (tgt := 151) J.1 J.2.1 d_MD_look_11 (by rw [c_23]; decide) (by rw [c_23]; decide) (by rw [c_23]; rfl) (by decide) ?_
      refine lv_aload_n J.1 J.2.1 d_MD_look_151 rfl (lv_at hl 0 rfl) ?_
      refine jg J hJ hP 0 rfl rfl i_MD 17 (by decide) gf_MD_68 rfl d_MD_look_152 ?_
      refine lv_iload_n J.1 J.2.1 d_MD_look_155 rfl (lv_at hl 1 rfl) ?_
      replace h := g_ck h
      obtain ⟨k_24, h⟩ := h
      refine jai J hJ hP 14 rfl k_24 d_MD_look_156 ?_
      have h := Option.some.inj h
      rw [← h]
      exact jr_i J hS hP hD rfl d_MD_look_157
    replace h := g_f c_23 h
    by_cases c_25 : (p2) = 10
    · replace h := g_t c_25 h
      refine lv_tableIn (off := 147) (tgt := 158) J.1 J.2.1 d_MD_look_11 (by rw [c_25]; decide) (by rw [c_25]; decide) (by rw [c_25]; rfl) (by decide) ?_
      refine lv_aload_n J.1 J.2.1 d_MD_look_158 rfl (lv_at hl 0 rfl) ?_
      refine jg J hJ hP 0 rfl rfl i_MD 3 (by decide) gf_MD_25 rfl d_MD_look_159 ?_
      refine lv_iload_n J.1 J.2.1 d_MD_look_162 rfl (lv_at hl 1 rfl) ?_
      replace h := g_ck h
      obtain ⟨k_26, h⟩ := h
      refine jai J hJ hP 2 rfl k_26 d_MD_look_163 ?_
      have h := Option.some.inj h
      rw [← h]
      exact jr_i J hS hP hD rfl d_MD_look_164
    replace h := g_f c_25 h
    by_cases c_27 : (p2) = 11
    · replace h := g_t c_27 h
      refine lv_tableIn (off := 154) (tgt := 165) J.1 J.2.1 d_MD_look_11 (by rw [c_27]; decide) (by rw [c_27]; decide) (by rw [c_27]; rfl) (by decide) ?_
      refine lv_aload_n J.1 J.2.1 d_MD_look_165 rfl (lv_at hl 0 rfl) ?_
      refine jg J hJ hP 0 rfl rfl i_MD 4 (by decide) gf_MD_29 rfl d_MD_look_166 ?_
      refine lv_iload_n J.1 J.2.1 d_MD_look_169 rfl (lv_at hl 1 rfl) ?_
      replace h := g_ck h
      obtain ⟨k_28, h⟩ := h
      refine jai J hJ hP 3 rfl k_28 d_MD_look_170 ?_
      have h := Option.some.inj h
      rw [← h]
      exact jr_i J hS hP hD rfl d_MD_look_171
    replace h := g_f c_27 h
    refine lv_tableOut (tgt := 172) J.1 J.2.1 d_MD_look_11 (by have e0 := lv_neT c_3 (a := 0) (by decide); have e1 := lv_neT c_5 (a := 1) (by decide); have e2 := lv_neT c_7 (a := 2) (by decide); have e3 := lv_neT c_9 (a := 3) (by decide); have e4 := lv_neT c_11 (a := 4) (by decide); have e5 := lv_neT c_13 (a := 5) (by decide); have e6 := lv_neT c_16 (a := 6) (by decide); have e7 := lv_neT c_19 (a := 7) (by decide); have e8 := lv_neT c_21 (a := 8) (by decide); have e9 := lv_neT c_23 (a := 9) (by decide); have e10 := lv_neT c_25 (a := 10) (by decide); have e11 := lv_neT c_27 (a := 11) (by decide); omega) (by decide) ?_
    refine lv_iload_n J.1 J.2.1 d_MD_look_172 rfl (lv_at hl 2 rfl) ?_
    refine lv_bipush (v := 20) J.1 J.2.1 d_MD_look_173 (by decide) ?_
    refine lv_bipush (v := 27) J.1 J.2.1 d_MD_look_175 (by decide) ?_
    replace h := g_bd h
    obtain ⟨r_29, q_29, h⟩ := h
    have hq := ct_MD_in l E  H.size  p2 20 27 r_29 q_29
    have hr := jrunS (p := p) (e := e) (below := below) (R := ({ frames := 2, cells := 0, slots := 0, locals := 43 })) (cells := 0) (slots := 0) (As := [.int p2, .int 20, .int 27]) (rest := []) J hJ hA hZ hP hD hS hq [] rfl (by decide) gl_MD_246 gs_MD_in gini_MD gc_MD_in hd_MD_in ⟨rfl, rfl, Nat.le_of_ble_eq_true rfl, Nat.le_of_ble_eq_true rfl⟩ hl.1 rfl rfl (Nat.le_of_ble_eq_true rfl) d_MD_look_177 ⟨Nat.zero_le _, Nat.zero_le _⟩
    clear hq
    refine jk_i hr hA hP hD hS [] [0, 1, 2, 3, 4, 5, 6, 7, 8, 9, 10, 11, 12, 13, 14] (WR := [(n0, .inr (6, [.ref n_tape, .int ztaped, .ref n_isThere, .ref n_size, .ref n_depth, .ref n_memory, .ref n_register, .ref n_mode, .ref n_pc, .ref n_base, .ref n_bound, .ref n_timer, .ref n_ranOut, .ref n_halted, .ref n_steps, .ref n_outs, .ref n_output, .ref n_waits, .ref n_typed, .ref n_disk, .ref n_wants, .int zat, .int zend, .int zline, .ref n_labelFrom, .ref n_labelSize, .ref n_labelAddress, .int zlabels, .int zfault, .int zfaultLine, .int zisTold, .int zaddress, .ref n_made, .int zmissing, .int zgood, .int zvalue, .int zvalueFrom, .int zvalueSize, .int zme])), (n_isThere, .inl (E.2.1 3, 3, .inl zisThere)), (n_size, .inl (E.2.1 0, 3, .inl zsize)), (n_depth, .inl (E.2.1 0, 3, .inl zdepth)), (n_register, .inl (E.2.1 0, 24, .inl zregister)), (n_mode, .inl (E.2.1 0, 3, .inl zmode)), (n_pc, .inl (E.2.1 0, 3, .inl zpc)), (n_base, .inl (E.2.1 0, 3, .inl zbase)), (n_bound, .inl (E.2.1 0, 3, .inl zbound)), (n_timer, .inl (E.2.1 0, 3, .inl ztimer)), (n_ranOut, .inl (E.2.1 3, 3, .inl zranOut)), (n_halted, .inl (E.2.1 3, 3, .inl zhalted)), (n_steps, .inl (E.2.1 0, 3, .inl zsteps)), (n_outs, .inl (E.2.1 0, 3, .inl zouts)), (n_waits, .inl (E.2.1 0, 3, .inl zwaits))]) rfl rfl (by decide) (by decide) [0, 1, 2, 3, 4, 5, 6, 7, 8, 9, 10, 11, 12, 13, 14] (WF := [(n0, .inr (6, [.ref n_tape, .int ztaped, .ref n_isThere, .ref n_size, .ref n_depth, .ref n_memory, .ref n_register, .ref n_mode, .ref n_pc, .ref n_base, .ref n_bound, .ref n_timer, .ref n_ranOut, .ref n_halted, .ref n_steps, .ref n_outs, .ref n_output, .ref n_waits, .ref n_typed, .ref n_disk, .ref n_wants, .int zat, .int zend, .int zline, .ref n_labelFrom, .ref n_labelSize, .ref n_labelAddress, .int zlabels, .int zfault, .int zfaultLine, .int zisTold, .int zaddress, .ref n_made, .int zmissing, .int zgood, .int zvalue, .int zvalueFrom, .int zvalueSize, .int zme])), (n_isThere, .inl (E.2.1 3, 3, .inl zisThere)), (n_size, .inl (E.2.1 0, 3, .inl zsize)), (n_depth, .inl (E.2.1 0, 3, .inl zdepth)), (n_register, .inl (E.2.1 0, 24, .inl zregister)), (n_mode, .inl (E.2.1 0, 3, .inl zmode)), (n_pc, .inl (E.2.1 0, 3, .inl zpc)), (n_base, .inl (E.2.1 0, 3, .inl zbase)), (n_bound, .inl (E.2.1 0, 3, .inl zbound)), (n_timer, .inl (E.2.1 0, 3, .inl ztimer)), (n_ranOut, .inl (E.2.1 3, 3, .inl zranOut)), (n_halted, .inl (E.2.1 3, 3, .inl zhalted)), (n_steps, .inl (E.2.1 0, 3, .inl zsteps)), (n_outs, .inl (E.2.1 0, 3, .inl zouts)), (n_waits, .inl (E.2.1 0, 3, .inl zwaits))]) rfl (by decide) ?_
    clear hP hD hS
    intro H locs hP hD hS
    clear hr
    refine lv_if_eq (tgt := 200) J.1 J.2.1 d_MD_look_180 (by decide) (fun c_30 => ?_) (fun c_30 => ?_)
    · replace h := g_t c_30 h
      refine lv_iconst (v := (-1)) J.1 J.2.1 d_MD_look_200 (by decide) ?_
      have h := Option.some.inj h
      rw [← h]
      exact jr_i J hS hP hD rfl d_MD_look_201
    · replace h := g_f c_30 h
      refine lv_aload_n J.1 J.2.1 d_MD_look_183 rfl (lv_at hl 0 rfl) ?_
      refine jg J hJ hP 0 rfl rfl i_MD 6 (by decide) gf_MD_35 rfl d_MD_look_184 ?_
      refine lv_bipush (v := 8) J.1 J.2.1 d_MD_look_187 (by decide) ?_
      refine lv_iload_n J.1 J.2.1 d_MD_look_189 rfl (lv_at hl 1 rfl) ?_
      refine lv_imul J.1 J.2.1 d_MD_look_190 ?_
      refine lv_iload_n J.1 J.2.1 d_MD_look_191 rfl (lv_at hl 2 rfl) ?_
      refine lv_iadd J.1 J.2.1 d_MD_look_192 ?_
      refine lv_bipush (v := 20) J.1 J.2.1 d_MD_look_193 (by decide) ?_
      refine lv_isub J.1 J.2.1 d_MD_look_195 ?_
      replace h := g_ck h
      obtain ⟨k_31, h⟩ := h
      refine jai J hJ hP 4 rfl k_31 d_MD_look_196 ?_
      refine lv_goto (tgt := 201) J.1 J.2.1 d_MD_look_197 (by decide) ?_
      have h := Option.some.inj h
      rw [← h]
      exact jr_i J hS hP hD rfl d_MD_look_201
  · replace h := g_t c_2 h
    refine lv_iconst (v := (-1)) J.1 J.2.1 d_MD_look_8 (by decide) ?_
    have h := Option.some.inj h
    rw [← h]
    exact jr_i J hS hP hD rfl d_MD_look_9

theorem hd_MD_word2 : y_MD_word2.cls ≠ "java/lang/invoke/MethodHandle" ∧ y_MD_word2.cls ≠ "java/lang/invoke/VarHandle" ∧ (parseMethodDescriptor y_MD_word2.desc).map (fun d => d.parameters.length) = some 2 := by decide +kernel
def f_MD_word2 (zisThere : Nat → Int32) (zsize : Nat → Int32) (zmemory : Nat → Int32) (p1 : Int32) (p2 : Int32) : Option (Int32) := ((f_MD_isGuest zisThere p1).bind fun r_1 => (if r_1 = (0 : Int32) then (some (-1)) else (if ck p1 3 then ((f_MD_in  p2 0 ((zsize p1.toNatClampNeg) - 1)).bind fun r_4 => (if r_4 = (0 : Int32) then (some (-1)) else (if ck ((1024 * p1) + p2) 3072 then (some (zmemory ((1024 * p1) + p2).toNatClampNeg)) else none))) else none)))
set_option maxHeartbeats 4000000 in
set_option maxRecDepth 100000 in
theorem ct_MD_word2 (l : Launch) (E : jz_E) (n0 n_base n_bound n_depth n_disk n_halted n_isThere n_labelAddress n_labelFrom n_labelSize n_made n_memory n_mode n_output n_outs n_pc n_ranOut n_register n_size n_steps n_tape n_timer n_typed n_waits n_wants : Nat) (sz : Nat) (ztaped : Int32) (zat : Int32) (zend : Int32) (zline : Int32) (zlabels : Int32) (zfault : Int32) (zfaultLine : Int32) (zisTold : Int32) (zaddress : Int32) (zmissing : Int32) (zgood : Int32) (zvalue : Int32) (zvalueFrom : Int32) (zvalueSize : Int32) (zme : Int32) (zisThere : Nat → Int32) (zsize : Nat → Int32) (zmemory : Nat → Int32) (p1 : Int32) (p2 : Int32) (o_r : Int32)  (h : f_MD_word2 zisThere zsize zmemory p1 p2 = some o_r) : CTi l E y_MD_word2 c_MD_word2 3 (some .int) ({ frames := 2, cells := 0, slots := 0, locals := 43 }) [.ref n0, .int p1, .int p2] [(n0, .inr (6, [.ref n_tape, .int ztaped, .ref n_isThere, .ref n_size, .ref n_depth, .ref n_memory, .ref n_register, .ref n_mode, .ref n_pc, .ref n_base, .ref n_bound, .ref n_timer, .ref n_ranOut, .ref n_halted, .ref n_steps, .ref n_outs, .ref n_output, .ref n_waits, .ref n_typed, .ref n_disk, .ref n_wants, .int zat, .int zend, .int zline, .ref n_labelFrom, .ref n_labelSize, .ref n_labelAddress, .int zlabels, .int zfault, .int zfaultLine, .int zisTold, .int zaddress, .ref n_made, .int zmissing, .int zgood, .int zvalue, .int zvalueFrom, .int zvalueSize, .int zme])), (n_isThere, .inl (E.2.1 3, 3, .inl zisThere)), (n_size, .inl (E.2.1 0, 3, .inl zsize)), (n_memory, .inl (E.2.1 0, 3072, .inl zmemory))] sz o_r [(n0, .inr (6, [.ref n_tape, .int ztaped, .ref n_isThere, .ref n_size, .ref n_depth, .ref n_memory, .ref n_register, .ref n_mode, .ref n_pc, .ref n_base, .ref n_bound, .ref n_timer, .ref n_ranOut, .ref n_halted, .ref n_steps, .ref n_outs, .ref n_output, .ref n_waits, .ref n_typed, .ref n_disk, .ref n_wants, .int zat, .int zend, .int zline, .ref n_labelFrom, .ref n_labelSize, .ref n_labelAddress, .int zlabels, .int zfault, .int zfaultLine, .int zisTold, .int zaddress, .ref n_made, .int zmissing, .int zgood, .int zvalue, .int zvalueFrom, .int zvalueSize, .int zme])), (n_isThere, .inl (E.2.1 3, 3, .inl zisThere)), (n_size, .inl (E.2.1 0, 3, .inl zsize)), (n_memory, .inl (E.2.1 0, 3072, .inl zmemory))] := by
  refine jw (by decide +kernel) (Nat.le_of_ble_eq_true rfl) ?_
  intro p e s m below meth c A ls J hJ hAe hsz hA hZ hP hD hl
  rw [← hAe]
  have hS : va_S A s.heap s.heap [] := va_S.rf
  have hl : lv_has ls 3 [(0, .ref n0), (1, .int p1), (2, .int p2)] := hl
  unfold f_MD_word2 at h
  refine lv_aload_n J.1 J.2.1 d_MD_word2_0 rfl (lv_at hl 0 rfl) ?_
  refine lv_iload_n J.1 J.2.1 d_MD_word2_1 rfl (lv_at hl 1 rfl) ?_
  replace h := g_bd h
  obtain ⟨r_1, q_1, h⟩ := h
  have hq := ct_MD_isGuest l E n0 n_base n_bound n_depth n_disk n_halted n_isThere n_labelAddress n_labelFrom n_labelSize n_made n_memory n_mode n_output n_outs n_pc n_ranOut n_register n_size n_steps n_tape n_timer n_typed n_waits n_wants s.heap.size ztaped zat zend zline zlabels zfault zfaultLine zisTold zaddress zmissing zgood zvalue zvalueFrom zvalueSize zme zisThere p1 r_1 q_1
  have hr := jrunV (p := p) (e := e) (below := below) (R := ({ frames := 2, cells := 0, slots := 0, locals := 43 })) (cells := 0) (slots := 0) (As := [.int p1]) (rest := []) J hJ hA hZ hP hD hS hq [0, 1] rfl (by decide) gl_MD_292 gi_MD_isGuest gsel_MD_isGuest gini_MD gc_MD_isGuest hd_MD_isGuest ⟨rfl, rfl, Nat.le_of_ble_eq_true rfl, Nat.le_of_ble_eq_true rfl⟩ rfl rfl hl.1 rfl rfl (Nat.le_of_ble_eq_true rfl) d_MD_word2_2 ⟨Nat.zero_le _, Nat.zero_le _⟩
  clear hq
  refine jk_i hr hA hP hD hS [0, 1] [2, 3] (WR := [(n_size, .inl (E.2.1 0, 3, .inl zsize)), (n_memory, .inl (E.2.1 0, 3072, .inl zmemory))]) rfl rfl (by decide) (by decide) [2, 3, 0, 1] (WF := [(n0, .inr (6, [.ref n_tape, .int ztaped, .ref n_isThere, .ref n_size, .ref n_depth, .ref n_memory, .ref n_register, .ref n_mode, .ref n_pc, .ref n_base, .ref n_bound, .ref n_timer, .ref n_ranOut, .ref n_halted, .ref n_steps, .ref n_outs, .ref n_output, .ref n_waits, .ref n_typed, .ref n_disk, .ref n_wants, .int zat, .int zend, .int zline, .ref n_labelFrom, .ref n_labelSize, .ref n_labelAddress, .int zlabels, .int zfault, .int zfaultLine, .int zisTold, .int zaddress, .ref n_made, .int zmissing, .int zgood, .int zvalue, .int zvalueFrom, .int zvalueSize, .int zme])), (n_isThere, .inl (E.2.1 3, 3, .inl zisThere)), (n_size, .inl (E.2.1 0, 3, .inl zsize)), (n_memory, .inl (E.2.1 0, 3072, .inl zmemory))]) rfl (by decide) ?_
  clear hP hD hS
  intro H locs hP hD hS
  clear hr
  refine lv_if_eq (tgt := 39) J.1 J.2.1 d_MD_word2_5 (by decide) (fun c_2 => ?_) (fun c_2 => ?_)
  · replace h := g_t c_2 h
    refine lv_iconst (v := (-1)) J.1 J.2.1 d_MD_word2_39 (by decide) ?_
    have h := Option.some.inj h
    rw [← h]
    exact jr_i J hS hP hD rfl d_MD_word2_40
  · replace h := g_f c_2 h
    refine lv_iload_n J.1 J.2.1 d_MD_word2_8 rfl (lv_at hl 2 rfl) ?_
    refine lv_iconst (v := 0) J.1 J.2.1 d_MD_word2_9 (by decide) ?_
    refine lv_aload_n J.1 J.2.1 d_MD_word2_10 rfl (lv_at hl 0 rfl) ?_
    refine jg J hJ hP 0 rfl rfl i_MD 3 (by decide) gf_MD_25 rfl d_MD_word2_11 ?_
    refine lv_iload_n J.1 J.2.1 d_MD_word2_14 rfl (lv_at hl 1 rfl) ?_
    replace h := g_ck h
    obtain ⟨k_3, h⟩ := h
    refine jai J hJ hP 2 rfl k_3 d_MD_word2_15 ?_
    refine lv_iconst (v := 1) J.1 J.2.1 d_MD_word2_16 (by decide) ?_
    refine lv_isub J.1 J.2.1 d_MD_word2_17 ?_
    replace h := g_bd h
    obtain ⟨r_4, q_4, h⟩ := h
    have hq := ct_MD_in l E  H.size  p2 0 ((zsize p1.toNatClampNeg) - 1) r_4 q_4
    have hr := jrunS (p := p) (e := e) (below := below) (R := ({ frames := 2, cells := 0, slots := 0, locals := 43 })) (cells := 0) (slots := 0) (As := [.int p2, .int 0, .int ((zsize p1.toNatClampNeg) - 1)]) (rest := []) J hJ hA hZ hP hD hS hq [] rfl (by decide) gl_MD_246 gs_MD_in gini_MD gc_MD_in hd_MD_in ⟨rfl, rfl, Nat.le_of_ble_eq_true rfl, Nat.le_of_ble_eq_true rfl⟩ hl.1 rfl rfl (Nat.le_of_ble_eq_true rfl) d_MD_word2_18 ⟨Nat.zero_le _, Nat.zero_le _⟩
    clear hq
    refine jk_i hr hA hP hD hS [] [0, 1, 2, 3] (WR := [(n0, .inr (6, [.ref n_tape, .int ztaped, .ref n_isThere, .ref n_size, .ref n_depth, .ref n_memory, .ref n_register, .ref n_mode, .ref n_pc, .ref n_base, .ref n_bound, .ref n_timer, .ref n_ranOut, .ref n_halted, .ref n_steps, .ref n_outs, .ref n_output, .ref n_waits, .ref n_typed, .ref n_disk, .ref n_wants, .int zat, .int zend, .int zline, .ref n_labelFrom, .ref n_labelSize, .ref n_labelAddress, .int zlabels, .int zfault, .int zfaultLine, .int zisTold, .int zaddress, .ref n_made, .int zmissing, .int zgood, .int zvalue, .int zvalueFrom, .int zvalueSize, .int zme])), (n_isThere, .inl (E.2.1 3, 3, .inl zisThere)), (n_size, .inl (E.2.1 0, 3, .inl zsize)), (n_memory, .inl (E.2.1 0, 3072, .inl zmemory))]) rfl rfl (by decide) (by decide) [0, 1, 2, 3] (WF := [(n0, .inr (6, [.ref n_tape, .int ztaped, .ref n_isThere, .ref n_size, .ref n_depth, .ref n_memory, .ref n_register, .ref n_mode, .ref n_pc, .ref n_base, .ref n_bound, .ref n_timer, .ref n_ranOut, .ref n_halted, .ref n_steps, .ref n_outs, .ref n_output, .ref n_waits, .ref n_typed, .ref n_disk, .ref n_wants, .int zat, .int zend, .int zline, .ref n_labelFrom, .ref n_labelSize, .ref n_labelAddress, .int zlabels, .int zfault, .int zfaultLine, .int zisTold, .int zaddress, .ref n_made, .int zmissing, .int zgood, .int zvalue, .int zvalueFrom, .int zvalueSize, .int zme])), (n_isThere, .inl (E.2.1 3, 3, .inl zisThere)), (n_size, .inl (E.2.1 0, 3, .inl zsize)), (n_memory, .inl (E.2.1 0, 3072, .inl zmemory))]) rfl (by decide) ?_
    clear hP hD hS
    intro H locs hP hD hS
    clear hr
    refine lv_if_eq (tgt := 39) J.1 J.2.1 d_MD_word2_21 (by decide) (fun c_5 => ?_) (fun c_5 => ?_)
    · replace h := g_t c_5 h
      refine lv_iconst (v := (-1)) J.1 J.2.1 d_MD_word2_39 (by decide) ?_
      have h := Option.some.inj h
      rw [← h]
      exact jr_i J hS hP hD rfl d_MD_word2_40
    · replace h := g_f c_5 h
      refine lv_aload_n J.1 J.2.1 d_MD_word2_24 rfl (lv_at hl 0 rfl) ?_
      refine jg J hJ hP 0 rfl rfl i_MD 5 (by decide) gf_MD_32 rfl d_MD_word2_25 ?_
      refine lv_sipush (v := 1024) J.1 J.2.1 d_MD_word2_28 (by decide) ?_
      refine lv_iload_n J.1 J.2.1 d_MD_word2_31 rfl (lv_at hl 1 rfl) ?_
      refine lv_imul J.1 J.2.1 d_MD_word2_32 ?_
      refine lv_iload_n J.1 J.2.1 d_MD_word2_33 rfl (lv_at hl 2 rfl) ?_
      refine lv_iadd J.1 J.2.1 d_MD_word2_34 ?_
      replace h := g_ck h
      obtain ⟨k_6, h⟩ := h
      refine jai J hJ hP 3 rfl k_6 d_MD_word2_35 ?_
      refine lv_goto (tgt := 40) J.1 J.2.1 d_MD_word2_36 (by decide) ?_
      have h := Option.some.inj h
      rw [← h]
      exact jr_i J hS hP hD rfl d_MD_word2_40

theorem hd_MD_output : y_MD_output.cls ≠ "java/lang/invoke/MethodHandle" ∧ y_MD_output.cls ≠ "java/lang/invoke/VarHandle" ∧ (parseMethodDescriptor y_MD_output.desc).map (fun d => d.parameters.length) = some 2 := by decide +kernel
def f_MD_output (zisThere : Nat → Int32) (zouts : Nat → Int32) (zoutput : Nat → Int32) (p1 : Int32) (p2 : Int32) : Option (Int32) := ((f_MD_isGuest zisThere p1).bind fun r_1 => (if r_1 = (0 : Int32) then (some (-1)) else ((f_MD_in  p2 0 499).bind fun r_3 => (if r_3 = (0 : Int32) then (some (-1)) else (if ck p1 3 then (if (zouts p1.toNatClampNeg) ≤ p2 then (some (-1)) else (if ck ((500 * p1) + p2) 1500 then (some (zoutput ((500 * p1) + p2).toNatClampNeg)) else none)) else none)))))
set_option maxHeartbeats 4000000 in
set_option maxRecDepth 100000 in
theorem ct_MD_output (l : Launch) (E : jz_E) (n0 n_base n_bound n_depth n_disk n_halted n_isThere n_labelAddress n_labelFrom n_labelSize n_made n_memory n_mode n_output n_outs n_pc n_ranOut n_register n_size n_steps n_tape n_timer n_typed n_waits n_wants : Nat) (sz : Nat) (ztaped : Int32) (zat : Int32) (zend : Int32) (zline : Int32) (zlabels : Int32) (zfault : Int32) (zfaultLine : Int32) (zisTold : Int32) (zaddress : Int32) (zmissing : Int32) (zgood : Int32) (zvalue : Int32) (zvalueFrom : Int32) (zvalueSize : Int32) (zme : Int32) (zisThere : Nat → Int32) (zouts : Nat → Int32) (zoutput : Nat → Int32) (p1 : Int32) (p2 : Int32) (o_r : Int32)  (h : f_MD_output zisThere zouts zoutput p1 p2 = some o_r) : CTi l E y_MD_output c_MD_output 3 (some .int) ({ frames := 2, cells := 0, slots := 0, locals := 43 }) [.ref n0, .int p1, .int p2] [(n0, .inr (6, [.ref n_tape, .int ztaped, .ref n_isThere, .ref n_size, .ref n_depth, .ref n_memory, .ref n_register, .ref n_mode, .ref n_pc, .ref n_base, .ref n_bound, .ref n_timer, .ref n_ranOut, .ref n_halted, .ref n_steps, .ref n_outs, .ref n_output, .ref n_waits, .ref n_typed, .ref n_disk, .ref n_wants, .int zat, .int zend, .int zline, .ref n_labelFrom, .ref n_labelSize, .ref n_labelAddress, .int zlabels, .int zfault, .int zfaultLine, .int zisTold, .int zaddress, .ref n_made, .int zmissing, .int zgood, .int zvalue, .int zvalueFrom, .int zvalueSize, .int zme])), (n_isThere, .inl (E.2.1 3, 3, .inl zisThere)), (n_outs, .inl (E.2.1 0, 3, .inl zouts)), (n_output, .inl (E.2.1 0, 1500, .inl zoutput))] sz o_r [(n0, .inr (6, [.ref n_tape, .int ztaped, .ref n_isThere, .ref n_size, .ref n_depth, .ref n_memory, .ref n_register, .ref n_mode, .ref n_pc, .ref n_base, .ref n_bound, .ref n_timer, .ref n_ranOut, .ref n_halted, .ref n_steps, .ref n_outs, .ref n_output, .ref n_waits, .ref n_typed, .ref n_disk, .ref n_wants, .int zat, .int zend, .int zline, .ref n_labelFrom, .ref n_labelSize, .ref n_labelAddress, .int zlabels, .int zfault, .int zfaultLine, .int zisTold, .int zaddress, .ref n_made, .int zmissing, .int zgood, .int zvalue, .int zvalueFrom, .int zvalueSize, .int zme])), (n_isThere, .inl (E.2.1 3, 3, .inl zisThere)), (n_outs, .inl (E.2.1 0, 3, .inl zouts)), (n_output, .inl (E.2.1 0, 1500, .inl zoutput))] := by
  refine jw (by decide +kernel) (Nat.le_of_ble_eq_true rfl) ?_
  intro p e s m below meth c A ls J hJ hAe hsz hA hZ hP hD hl
  rw [← hAe]
  have hS : va_S A s.heap s.heap [] := va_S.rf
  have hl : lv_has ls 3 [(0, .ref n0), (1, .int p1), (2, .int p2)] := hl
  unfold f_MD_output at h
  refine lv_aload_n J.1 J.2.1 d_MD_output_0 rfl (lv_at hl 0 rfl) ?_
  refine lv_iload_n J.1 J.2.1 d_MD_output_1 rfl (lv_at hl 1 rfl) ?_
  replace h := g_bd h
  obtain ⟨r_1, q_1, h⟩ := h
  have hq := ct_MD_isGuest l E n0 n_base n_bound n_depth n_disk n_halted n_isThere n_labelAddress n_labelFrom n_labelSize n_made n_memory n_mode n_output n_outs n_pc n_ranOut n_register n_size n_steps n_tape n_timer n_typed n_waits n_wants s.heap.size ztaped zat zend zline zlabels zfault zfaultLine zisTold zaddress zmissing zgood zvalue zvalueFrom zvalueSize zme zisThere p1 r_1 q_1
  have hr := jrunV (p := p) (e := e) (below := below) (R := ({ frames := 2, cells := 0, slots := 0, locals := 43 })) (cells := 0) (slots := 0) (As := [.int p1]) (rest := []) J hJ hA hZ hP hD hS hq [0, 1] rfl (by decide) gl_MD_292 gi_MD_isGuest gsel_MD_isGuest gini_MD gc_MD_isGuest hd_MD_isGuest ⟨rfl, rfl, Nat.le_of_ble_eq_true rfl, Nat.le_of_ble_eq_true rfl⟩ rfl rfl hl.1 rfl rfl (Nat.le_of_ble_eq_true rfl) d_MD_output_2 ⟨Nat.zero_le _, Nat.zero_le _⟩
  clear hq
  refine jk_i hr hA hP hD hS [0, 1] [2, 3] (WR := [(n_outs, .inl (E.2.1 0, 3, .inl zouts)), (n_output, .inl (E.2.1 0, 1500, .inl zoutput))]) rfl rfl (by decide) (by decide) [2, 3, 0, 1] (WF := [(n0, .inr (6, [.ref n_tape, .int ztaped, .ref n_isThere, .ref n_size, .ref n_depth, .ref n_memory, .ref n_register, .ref n_mode, .ref n_pc, .ref n_base, .ref n_bound, .ref n_timer, .ref n_ranOut, .ref n_halted, .ref n_steps, .ref n_outs, .ref n_output, .ref n_waits, .ref n_typed, .ref n_disk, .ref n_wants, .int zat, .int zend, .int zline, .ref n_labelFrom, .ref n_labelSize, .ref n_labelAddress, .int zlabels, .int zfault, .int zfaultLine, .int zisTold, .int zaddress, .ref n_made, .int zmissing, .int zgood, .int zvalue, .int zvalueFrom, .int zvalueSize, .int zme])), (n_isThere, .inl (E.2.1 3, 3, .inl zisThere)), (n_outs, .inl (E.2.1 0, 3, .inl zouts)), (n_output, .inl (E.2.1 0, 1500, .inl zoutput))]) rfl (by decide) ?_
  clear hP hD hS
  intro H locs hP hD hS
  clear hr
  refine lv_if_eq (tgt := 44) J.1 J.2.1 d_MD_output_5 (by decide) (fun c_2 => ?_) (fun c_2 => ?_)
  · replace h := g_t c_2 h
    refine lv_iconst (v := (-1)) J.1 J.2.1 d_MD_output_44 (by decide) ?_
    have h := Option.some.inj h
    rw [← h]
    exact jr_i J hS hP hD rfl d_MD_output_45
  · replace h := g_f c_2 h
    refine lv_iload_n J.1 J.2.1 d_MD_output_8 rfl (lv_at hl 2 rfl) ?_
    refine lv_iconst (v := 0) J.1 J.2.1 d_MD_output_9 (by decide) ?_
    refine lv_sipush (v := 499) J.1 J.2.1 d_MD_output_10 (by decide) ?_
    replace h := g_bd h
    obtain ⟨r_3, q_3, h⟩ := h
    have hq := ct_MD_in l E  H.size  p2 0 499 r_3 q_3
    have hr := jrunS (p := p) (e := e) (below := below) (R := ({ frames := 2, cells := 0, slots := 0, locals := 43 })) (cells := 0) (slots := 0) (As := [.int p2, .int 0, .int 499]) (rest := []) J hJ hA hZ hP hD hS hq [] rfl (by decide) gl_MD_246 gs_MD_in gini_MD gc_MD_in hd_MD_in ⟨rfl, rfl, Nat.le_of_ble_eq_true rfl, Nat.le_of_ble_eq_true rfl⟩ hl.1 rfl rfl (Nat.le_of_ble_eq_true rfl) d_MD_output_13 ⟨Nat.zero_le _, Nat.zero_le _⟩
    clear hq
    refine jk_i hr hA hP hD hS [] [0, 1, 2, 3] (WR := [(n0, .inr (6, [.ref n_tape, .int ztaped, .ref n_isThere, .ref n_size, .ref n_depth, .ref n_memory, .ref n_register, .ref n_mode, .ref n_pc, .ref n_base, .ref n_bound, .ref n_timer, .ref n_ranOut, .ref n_halted, .ref n_steps, .ref n_outs, .ref n_output, .ref n_waits, .ref n_typed, .ref n_disk, .ref n_wants, .int zat, .int zend, .int zline, .ref n_labelFrom, .ref n_labelSize, .ref n_labelAddress, .int zlabels, .int zfault, .int zfaultLine, .int zisTold, .int zaddress, .ref n_made, .int zmissing, .int zgood, .int zvalue, .int zvalueFrom, .int zvalueSize, .int zme])), (n_isThere, .inl (E.2.1 3, 3, .inl zisThere)), (n_outs, .inl (E.2.1 0, 3, .inl zouts)), (n_output, .inl (E.2.1 0, 1500, .inl zoutput))]) rfl rfl (by decide) (by decide) [0, 1, 2, 3] (WF := [(n0, .inr (6, [.ref n_tape, .int ztaped, .ref n_isThere, .ref n_size, .ref n_depth, .ref n_memory, .ref n_register, .ref n_mode, .ref n_pc, .ref n_base, .ref n_bound, .ref n_timer, .ref n_ranOut, .ref n_halted, .ref n_steps, .ref n_outs, .ref n_output, .ref n_waits, .ref n_typed, .ref n_disk, .ref n_wants, .int zat, .int zend, .int zline, .ref n_labelFrom, .ref n_labelSize, .ref n_labelAddress, .int zlabels, .int zfault, .int zfaultLine, .int zisTold, .int zaddress, .ref n_made, .int zmissing, .int zgood, .int zvalue, .int zvalueFrom, .int zvalueSize, .int zme])), (n_isThere, .inl (E.2.1 3, 3, .inl zisThere)), (n_outs, .inl (E.2.1 0, 3, .inl zouts)), (n_output, .inl (E.2.1 0, 1500, .inl zoutput))]) rfl (by decide) ?_
    clear hP hD hS
    intro H locs hP hD hS
    clear hr
    refine lv_if_eq (tgt := 44) J.1 J.2.1 d_MD_output_16 (by decide) (fun c_4 => ?_) (fun c_4 => ?_)
    · replace h := g_t c_4 h
      refine lv_iconst (v := (-1)) J.1 J.2.1 d_MD_output_44 (by decide) ?_
      have h := Option.some.inj h
      rw [← h]
      exact jr_i J hS hP hD rfl d_MD_output_45
    · replace h := g_f c_4 h
      refine lv_iload_n J.1 J.2.1 d_MD_output_19 rfl (lv_at hl 2 rfl) ?_
      refine lv_aload_n J.1 J.2.1 d_MD_output_20 rfl (lv_at hl 0 rfl) ?_
      refine jg J hJ hP 0 rfl rfl i_MD 15 (by decide) gf_MD_62 rfl d_MD_output_21 ?_
      refine lv_iload_n J.1 J.2.1 d_MD_output_24 rfl (lv_at hl 1 rfl) ?_
      replace h := g_ck h
      obtain ⟨k_5, h⟩ := h
      refine jai J hJ hP 2 rfl k_5 d_MD_output_25 ?_
      refine lv_icmp_ge (tgt := 44) J.1 J.2.1 d_MD_output_26 (by decide) (fun c_6 => ?_) (fun c_6 => ?_)
      · replace h := g_t c_6 h
        refine lv_iconst (v := (-1)) J.1 J.2.1 d_MD_output_44 (by decide) ?_
        have h := Option.some.inj h
        rw [← h]
        exact jr_i J hS hP hD rfl d_MD_output_45
      · replace h := g_f c_6 h
        refine lv_aload_n J.1 J.2.1 d_MD_output_29 rfl (lv_at hl 0 rfl) ?_
        refine jg J hJ hP 0 rfl rfl i_MD 16 (by decide) gf_MD_65 rfl d_MD_output_30 ?_
        refine lv_sipush (v := 500) J.1 J.2.1 d_MD_output_33 (by decide) ?_
        refine lv_iload_n J.1 J.2.1 d_MD_output_36 rfl (lv_at hl 1 rfl) ?_
        refine lv_imul J.1 J.2.1 d_MD_output_37 ?_
        refine lv_iload_n J.1 J.2.1 d_MD_output_38 rfl (lv_at hl 2 rfl) ?_
        refine lv_iadd J.1 J.2.1 d_MD_output_39 ?_
        replace h := g_ck h
        obtain ⟨k_7, h⟩ := h
        refine jai J hJ hP 3 rfl k_7 d_MD_output_40 ?_
        refine lv_goto (tgt := 45) J.1 J.2.1 d_MD_output_41 (by decide) ?_
        have h := Option.some.inj h
        rw [← h]
        exact jr_i J hS hP hD rfl d_MD_output_45

theorem hd_MD_disk : y_MD_disk.cls ≠ "java/lang/invoke/MethodHandle" ∧ y_MD_disk.cls ≠ "java/lang/invoke/VarHandle" ∧ (parseMethodDescriptor y_MD_disk.desc).map (fun d => d.parameters.length) = some 3 := by decide +kernel
def f_MD_disk (zisThere : Nat → Int32) (zdisk : Nat → Int32) (p1 : Int32) (p2 : Int32) (p3 : Int32) : Option (Int32) := ((f_MD_isGuest zisThere p1).bind fun r_1 => (if r_1 = (0 : Int32) then (some (-1)) else ((f_MD_in  p2 0 7).bind fun r_3 => (if r_3 = (0 : Int32) then (some (-1)) else ((f_MD_in  p3 0 15).bind fun r_5 => (if r_5 = (0 : Int32) then (some (-1)) else (if ck (((128 * p1) + (16 * p2)) + p3) 384 then (some (zdisk (((128 * p1) + (16 * p2)) + p3).toNatClampNeg)) else none)))))))
set_option maxHeartbeats 4000000 in
set_option maxRecDepth 100000 in
theorem ct_MD_disk (l : Launch) (E : jz_E) (n0 n_base n_bound n_depth n_disk n_halted n_isThere n_labelAddress n_labelFrom n_labelSize n_made n_memory n_mode n_output n_outs n_pc n_ranOut n_register n_size n_steps n_tape n_timer n_typed n_waits n_wants : Nat) (sz : Nat) (ztaped : Int32) (zat : Int32) (zend : Int32) (zline : Int32) (zlabels : Int32) (zfault : Int32) (zfaultLine : Int32) (zisTold : Int32) (zaddress : Int32) (zmissing : Int32) (zgood : Int32) (zvalue : Int32) (zvalueFrom : Int32) (zvalueSize : Int32) (zme : Int32) (zisThere : Nat → Int32) (zdisk : Nat → Int32) (p1 : Int32) (p2 : Int32) (p3 : Int32) (o_r : Int32)  (h : f_MD_disk zisThere zdisk p1 p2 p3 = some o_r) : CTi l E y_MD_disk c_MD_disk 4 (some .int) ({ frames := 2, cells := 0, slots := 0, locals := 43 }) [.ref n0, .int p1, .int p2, .int p3] [(n0, .inr (6, [.ref n_tape, .int ztaped, .ref n_isThere, .ref n_size, .ref n_depth, .ref n_memory, .ref n_register, .ref n_mode, .ref n_pc, .ref n_base, .ref n_bound, .ref n_timer, .ref n_ranOut, .ref n_halted, .ref n_steps, .ref n_outs, .ref n_output, .ref n_waits, .ref n_typed, .ref n_disk, .ref n_wants, .int zat, .int zend, .int zline, .ref n_labelFrom, .ref n_labelSize, .ref n_labelAddress, .int zlabels, .int zfault, .int zfaultLine, .int zisTold, .int zaddress, .ref n_made, .int zmissing, .int zgood, .int zvalue, .int zvalueFrom, .int zvalueSize, .int zme])), (n_isThere, .inl (E.2.1 3, 3, .inl zisThere)), (n_disk, .inl (E.2.1 0, 384, .inl zdisk))] sz o_r [(n0, .inr (6, [.ref n_tape, .int ztaped, .ref n_isThere, .ref n_size, .ref n_depth, .ref n_memory, .ref n_register, .ref n_mode, .ref n_pc, .ref n_base, .ref n_bound, .ref n_timer, .ref n_ranOut, .ref n_halted, .ref n_steps, .ref n_outs, .ref n_output, .ref n_waits, .ref n_typed, .ref n_disk, .ref n_wants, .int zat, .int zend, .int zline, .ref n_labelFrom, .ref n_labelSize, .ref n_labelAddress, .int zlabels, .int zfault, .int zfaultLine, .int zisTold, .int zaddress, .ref n_made, .int zmissing, .int zgood, .int zvalue, .int zvalueFrom, .int zvalueSize, .int zme])), (n_isThere, .inl (E.2.1 3, 3, .inl zisThere)), (n_disk, .inl (E.2.1 0, 384, .inl zdisk))] := by
  refine jw (by decide +kernel) (Nat.le_of_ble_eq_true rfl) ?_
  intro p e s m below meth c A ls J hJ hAe hsz hA hZ hP hD hl
  rw [← hAe]
  have hS : va_S A s.heap s.heap [] := va_S.rf
  have hl : lv_has ls 4 [(0, .ref n0), (1, .int p1), (2, .int p2), (3, .int p3)] := hl
  unfold f_MD_disk at h
  refine lv_aload_n J.1 J.2.1 d_MD_disk_0 rfl (lv_at hl 0 rfl) ?_
  refine lv_iload_n J.1 J.2.1 d_MD_disk_1 rfl (lv_at hl 1 rfl) ?_
  replace h := g_bd h
  obtain ⟨r_1, q_1, h⟩ := h
  have hq := ct_MD_isGuest l E n0 n_base n_bound n_depth n_disk n_halted n_isThere n_labelAddress n_labelFrom n_labelSize n_made n_memory n_mode n_output n_outs n_pc n_ranOut n_register n_size n_steps n_tape n_timer n_typed n_waits n_wants s.heap.size ztaped zat zend zline zlabels zfault zfaultLine zisTold zaddress zmissing zgood zvalue zvalueFrom zvalueSize zme zisThere p1 r_1 q_1
  have hr := jrunV (p := p) (e := e) (below := below) (R := ({ frames := 2, cells := 0, slots := 0, locals := 43 })) (cells := 0) (slots := 0) (As := [.int p1]) (rest := []) J hJ hA hZ hP hD hS hq [0, 1] rfl (by decide) gl_MD_292 gi_MD_isGuest gsel_MD_isGuest gini_MD gc_MD_isGuest hd_MD_isGuest ⟨rfl, rfl, Nat.le_of_ble_eq_true rfl, Nat.le_of_ble_eq_true rfl⟩ rfl rfl hl.1 rfl rfl (Nat.le_of_ble_eq_true rfl) d_MD_disk_2 ⟨Nat.zero_le _, Nat.zero_le _⟩
  clear hq
  refine jk_i hr hA hP hD hS [0, 1] [2] (WR := [(n_disk, .inl (E.2.1 0, 384, .inl zdisk))]) rfl rfl (by decide) (by decide) [1, 2, 0] (WF := [(n0, .inr (6, [.ref n_tape, .int ztaped, .ref n_isThere, .ref n_size, .ref n_depth, .ref n_memory, .ref n_register, .ref n_mode, .ref n_pc, .ref n_base, .ref n_bound, .ref n_timer, .ref n_ranOut, .ref n_halted, .ref n_steps, .ref n_outs, .ref n_output, .ref n_waits, .ref n_typed, .ref n_disk, .ref n_wants, .int zat, .int zend, .int zline, .ref n_labelFrom, .ref n_labelSize, .ref n_labelAddress, .int zlabels, .int zfault, .int zfaultLine, .int zisTold, .int zaddress, .ref n_made, .int zmissing, .int zgood, .int zvalue, .int zvalueFrom, .int zvalueSize, .int zme])), (n_isThere, .inl (E.2.1 3, 3, .inl zisThere)), (n_disk, .inl (E.2.1 0, 384, .inl zdisk))]) rfl (by decide) ?_
  clear hP hD hS
  intro H locs hP hD hS
  clear hr
  refine lv_if_eq (tgt := 48) J.1 J.2.1 d_MD_disk_5 (by decide) (fun c_2 => ?_) (fun c_2 => ?_)
  · replace h := g_t c_2 h
    refine lv_iconst (v := (-1)) J.1 J.2.1 d_MD_disk_48 (by decide) ?_
    have h := Option.some.inj h
    rw [← h]
    exact jr_i J hS hP hD rfl d_MD_disk_49
  · replace h := g_f c_2 h
    refine lv_iload_n J.1 J.2.1 d_MD_disk_8 rfl (lv_at hl 2 rfl) ?_
    refine lv_iconst (v := 0) J.1 J.2.1 d_MD_disk_9 (by decide) ?_
    refine lv_bipush (v := 7) J.1 J.2.1 d_MD_disk_10 (by decide) ?_
    replace h := g_bd h
    obtain ⟨r_3, q_3, h⟩ := h
    have hq := ct_MD_in l E  H.size  p2 0 7 r_3 q_3
    have hr := jrunS (p := p) (e := e) (below := below) (R := ({ frames := 2, cells := 0, slots := 0, locals := 43 })) (cells := 0) (slots := 0) (As := [.int p2, .int 0, .int 7]) (rest := []) J hJ hA hZ hP hD hS hq [] rfl (by decide) gl_MD_246 gs_MD_in gini_MD gc_MD_in hd_MD_in ⟨rfl, rfl, Nat.le_of_ble_eq_true rfl, Nat.le_of_ble_eq_true rfl⟩ hl.1 rfl rfl (Nat.le_of_ble_eq_true rfl) d_MD_disk_12 ⟨Nat.zero_le _, Nat.zero_le _⟩
    clear hq
    refine jk_i hr hA hP hD hS [] [0, 1, 2] (WR := [(n0, .inr (6, [.ref n_tape, .int ztaped, .ref n_isThere, .ref n_size, .ref n_depth, .ref n_memory, .ref n_register, .ref n_mode, .ref n_pc, .ref n_base, .ref n_bound, .ref n_timer, .ref n_ranOut, .ref n_halted, .ref n_steps, .ref n_outs, .ref n_output, .ref n_waits, .ref n_typed, .ref n_disk, .ref n_wants, .int zat, .int zend, .int zline, .ref n_labelFrom, .ref n_labelSize, .ref n_labelAddress, .int zlabels, .int zfault, .int zfaultLine, .int zisTold, .int zaddress, .ref n_made, .int zmissing, .int zgood, .int zvalue, .int zvalueFrom, .int zvalueSize, .int zme])), (n_isThere, .inl (E.2.1 3, 3, .inl zisThere)), (n_disk, .inl (E.2.1 0, 384, .inl zdisk))]) rfl rfl (by decide) (by decide) [0, 1, 2] (WF := [(n0, .inr (6, [.ref n_tape, .int ztaped, .ref n_isThere, .ref n_size, .ref n_depth, .ref n_memory, .ref n_register, .ref n_mode, .ref n_pc, .ref n_base, .ref n_bound, .ref n_timer, .ref n_ranOut, .ref n_halted, .ref n_steps, .ref n_outs, .ref n_output, .ref n_waits, .ref n_typed, .ref n_disk, .ref n_wants, .int zat, .int zend, .int zline, .ref n_labelFrom, .ref n_labelSize, .ref n_labelAddress, .int zlabels, .int zfault, .int zfaultLine, .int zisTold, .int zaddress, .ref n_made, .int zmissing, .int zgood, .int zvalue, .int zvalueFrom, .int zvalueSize, .int zme])), (n_isThere, .inl (E.2.1 3, 3, .inl zisThere)), (n_disk, .inl (E.2.1 0, 384, .inl zdisk))]) rfl (by decide) ?_
    clear hP hD hS
    intro H locs hP hD hS
    clear hr
    refine lv_if_eq (tgt := 48) J.1 J.2.1 d_MD_disk_15 (by decide) (fun c_4 => ?_) (fun c_4 => ?_)
    · replace h := g_t c_4 h
      refine lv_iconst (v := (-1)) J.1 J.2.1 d_MD_disk_48 (by decide) ?_
      have h := Option.some.inj h
      rw [← h]
      exact jr_i J hS hP hD rfl d_MD_disk_49
    · replace h := g_f c_4 h
      refine lv_iload_n J.1 J.2.1 d_MD_disk_18 rfl (lv_at hl 3 rfl) ?_
      refine lv_iconst (v := 0) J.1 J.2.1 d_MD_disk_19 (by decide) ?_
      refine lv_bipush (v := 15) J.1 J.2.1 d_MD_disk_20 (by decide) ?_
      replace h := g_bd h
      obtain ⟨r_5, q_5, h⟩ := h
      have hq := ct_MD_in l E  H.size  p3 0 15 r_5 q_5
      have hr := jrunS (p := p) (e := e) (below := below) (R := ({ frames := 2, cells := 0, slots := 0, locals := 43 })) (cells := 0) (slots := 0) (As := [.int p3, .int 0, .int 15]) (rest := []) J hJ hA hZ hP hD hS hq [] rfl (by decide) gl_MD_246 gs_MD_in gini_MD gc_MD_in hd_MD_in ⟨rfl, rfl, Nat.le_of_ble_eq_true rfl, Nat.le_of_ble_eq_true rfl⟩ hl.1 rfl rfl (Nat.le_of_ble_eq_true rfl) d_MD_disk_22 ⟨Nat.zero_le _, Nat.zero_le _⟩
      clear hq
      refine jk_i hr hA hP hD hS [] [0, 1, 2] (WR := [(n0, .inr (6, [.ref n_tape, .int ztaped, .ref n_isThere, .ref n_size, .ref n_depth, .ref n_memory, .ref n_register, .ref n_mode, .ref n_pc, .ref n_base, .ref n_bound, .ref n_timer, .ref n_ranOut, .ref n_halted, .ref n_steps, .ref n_outs, .ref n_output, .ref n_waits, .ref n_typed, .ref n_disk, .ref n_wants, .int zat, .int zend, .int zline, .ref n_labelFrom, .ref n_labelSize, .ref n_labelAddress, .int zlabels, .int zfault, .int zfaultLine, .int zisTold, .int zaddress, .ref n_made, .int zmissing, .int zgood, .int zvalue, .int zvalueFrom, .int zvalueSize, .int zme])), (n_isThere, .inl (E.2.1 3, 3, .inl zisThere)), (n_disk, .inl (E.2.1 0, 384, .inl zdisk))]) rfl rfl (by decide) (by decide) [0, 1, 2] (WF := [(n0, .inr (6, [.ref n_tape, .int ztaped, .ref n_isThere, .ref n_size, .ref n_depth, .ref n_memory, .ref n_register, .ref n_mode, .ref n_pc, .ref n_base, .ref n_bound, .ref n_timer, .ref n_ranOut, .ref n_halted, .ref n_steps, .ref n_outs, .ref n_output, .ref n_waits, .ref n_typed, .ref n_disk, .ref n_wants, .int zat, .int zend, .int zline, .ref n_labelFrom, .ref n_labelSize, .ref n_labelAddress, .int zlabels, .int zfault, .int zfaultLine, .int zisTold, .int zaddress, .ref n_made, .int zmissing, .int zgood, .int zvalue, .int zvalueFrom, .int zvalueSize, .int zme])), (n_isThere, .inl (E.2.1 3, 3, .inl zisThere)), (n_disk, .inl (E.2.1 0, 384, .inl zdisk))]) rfl (by decide) ?_
      clear hP hD hS
      intro H locs hP hD hS
      clear hr
      refine lv_if_eq (tgt := 48) J.1 J.2.1 d_MD_disk_25 (by decide) (fun c_6 => ?_) (fun c_6 => ?_)
      · replace h := g_t c_6 h
        refine lv_iconst (v := (-1)) J.1 J.2.1 d_MD_disk_48 (by decide) ?_
        have h := Option.some.inj h
        rw [← h]
        exact jr_i J hS hP hD rfl d_MD_disk_49
      · replace h := g_f c_6 h
        refine lv_aload_n J.1 J.2.1 d_MD_disk_28 rfl (lv_at hl 0 rfl) ?_
        refine jg J hJ hP 0 rfl rfl i_MD 19 (by decide) gf_MD_74 rfl d_MD_disk_29 ?_
        refine lv_sipush (v := 128) J.1 J.2.1 d_MD_disk_32 (by decide) ?_
        refine lv_iload_n J.1 J.2.1 d_MD_disk_35 rfl (lv_at hl 1 rfl) ?_
        refine lv_imul J.1 J.2.1 d_MD_disk_36 ?_
        refine lv_bipush (v := 16) J.1 J.2.1 d_MD_disk_37 (by decide) ?_
        refine lv_iload_n J.1 J.2.1 d_MD_disk_39 rfl (lv_at hl 2 rfl) ?_
        refine lv_imul J.1 J.2.1 d_MD_disk_40 ?_
        refine lv_iadd J.1 J.2.1 d_MD_disk_41 ?_
        refine lv_iload_n J.1 J.2.1 d_MD_disk_42 rfl (lv_at hl 3 rfl) ?_
        refine lv_iadd J.1 J.2.1 d_MD_disk_43 ?_
        replace h := g_ck h
        obtain ⟨k_7, h⟩ := h
        refine jai J hJ hP 2 rfl k_7 d_MD_disk_44 ?_
        refine lv_goto (tgt := 49) J.1 J.2.1 d_MD_disk_45 (by decide) ?_
        have h := Option.some.inj h
        rw [← h]
        exact jr_i J hS hP hD rfl d_MD_disk_49
