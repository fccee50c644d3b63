theorem hd_MD_value : y_MD_value.cls ≠ "java/lang/invoke/MethodHandle" ∧ y_MD_value.cls ≠ "java/lang/invoke/VarHandle" ∧ (parseMethodDescriptor y_MD_value.desc).map (fun d => d.parameters.length) = some 1 := by decide +kernel
def b_MD_value_85 (zat : Int32) (zend : Int32) (zgood : Int32) (zvalue : Int32) (zvalueFrom : Int32) (zvalueSize : Int32) (ztape : Nat → Int32) : Option (Int32 × Int32 × Int32 × Int32 × Int32) := (if zgood = (0 : Int32) then (some ((zat + zvalueSize), zgood, zvalue, zvalueFrom, zvalueSize)) else ((f_MD_byteAt zend ztape (zat + zvalueSize)).bind fun r_2 => (if r_2 = (43 : Int32) then ((f_MD_number ((zat + zvalueSize) + 1) zend zgood ztape).bind fun (r_4, zat_4, zgood_4) => (some (zat_4, zgood_4, r_4, zvalueFrom, zvalueSize))) else (some ((zat + zvalueSize), zgood, zvalue, zvalueFrom, zvalueSize)))))
def f_MD_value (zat : Int32) (zend : Int32) (zgood : Int32) (zvalueFrom : Int32) (ztape : Nat → Int32) (p1 : Int32) : Option (Int32 × Int32 × Int32 × Int32 × Int32) := ((f_MD_gap zat zend zgood ztape).bind fun (zat_5, zgood_5) => (if zgood_5 = (0 : Int32) then (some (zat_5, zgood_5, 0, zvalueFrom, 0)) else (if p1 = (0 : Int32) then ((f_MD_byteAt zend ztape zat_5).bind fun r_9 => ((f_MD_isDigit  r_9).bind fun r_10 => (if r_10 = (0 : Int32) then ((f_MD_nameAt zend ztape zat_5).bind fun r_12 => (if r_12 ≤ (0 : Int32) then b_MD_value_85 zat_5 zend 0 0 zat_5 r_12 ztape else b_MD_value_85 zat_5 zend 1 0 zat_5 r_12 ztape)) else ((f_MD_number zat_5 zend zgood_5 ztape).bind fun (r_14, zat_14, zgood_14) => (some (zat_14, zgood_14, r_14, zvalueFrom, 0)))))) else ((f_MD_number zat_5 zend zgood_5 ztape).bind fun (r_8, zat_8, zgood_8) => (some (zat_8, zgood_8, r_8, zvalueFrom, 0))))))
set_option maxHeartbeats 4000000 in
set_option maxRecDepth 100000 in
theorem kb_MD_value_85 {p : Program} {l : Launch} {e : Env} {s : State} {m : MethodId} {below : List Frame} {meth : Method} {c : Code} {A : Nat → Prop} {E : jz_E} {n0 n_base n_bound n_depth n_disk n_halted n_isThere n_labelAddress n_labelFrom n_labelSize n_made n_memory n_mode n_output n_outs n_pc n_ranOut n_register n_size n_steps n_tape n_timer n_typed n_waits n_wants : Nat} {p1 : Int32} {o_zat : Int32} {o_zgood : Int32} {o_zvalue : Int32} {o_zvalueFrom : Int32} {o_zvalueSize : Int32} (J : JC p s m ([.ref n0, .int p1] : List Value).toArray meth c c_MD_value 2 none y_MD_value.cls) (hJ : jE E s) (hA : ∀ q : Nat, s.heap.size ≤ q → A q) (hZ : jz_ok E A s s.heap) : ∀ (ztaped : Int32) (zat : Int32) (zend : Int32) (zline : Int32) (zlabels : Int32) (zfault : Int32) (zfaultLine : Int32) (zisTold : Int32) (zaddress : Int32) (zmissing : Int32) (zgood : Int32) (zvalue : Int32) (zvalueFrom : Int32) (zvalueSize : Int32) (zme : Int32) (ztape : Nat → Int32) (H : Heap) (locs : List Loc) (ls : Array Slot), b_MD_value_85 zat zend zgood zvalue zvalueFrom zvalueSize ztape = some (o_zat, o_zgood, o_zvalue, o_zvalueFrom, o_zvalueSize) → va_P E.1 classes [(n0, .inr (6, [.ref n_tape, .int ztaped, .ref n_isThere, .ref n_size, .ref n_depth, .ref n_memory, .ref n_register, .ref n_mode, .ref n_pc, .ref n_base, .ref n_bound, .ref n_timer, .ref n_ranOut, .ref n_halted, .ref n_steps, .ref n_outs, .ref n_output, .ref n_waits, .ref n_typed, .ref n_disk, .ref n_wants, .int zat, .int zend, .int zline, .ref n_labelFrom, .ref n_labelSize, .ref n_labelAddress, .int zlabels, .int zfault, .int zfaultLine, .int zisTold, .int zaddress, .ref n_made, .int zmissing, .int zgood, .int zvalue, .int zvalueFrom, .int zvalueSize, .int zme])), (n_tape, .inl (E.2.1 2, 3000, .inl ztape))] H → va_D A [(n0, .inr (6, [.ref n_tape, .int ztaped, .ref n_isThere, .ref n_size, .ref n_depth, .ref n_memory, .ref n_register, .ref n_mode, .ref n_pc, .ref n_base, .ref n_bound, .ref n_timer, .ref n_ranOut, .ref n_halted, .ref n_steps, .ref n_outs, .ref n_output, .ref n_waits, .ref n_typed, .ref n_disk, .ref n_wants, .int zat, .int zend, .int zline, .ref n_labelFrom, .ref n_labelSize, .ref n_labelAddress, .int zlabels, .int zfault, .int zfaultLine, .int zisTold, .int zaddress, .ref n_made, .int zmissing, .int zgood, .int zvalue, .int zvalueFrom, .int zvalueSize, .int zme])), (n_tape, .inl (E.2.1 2, 3000, .inl ztape))] → va_S A s.heap H locs → lv_has ls 2 [(0, .ref n0)] → W p l e ({ frames := 2, cells := 0, slots := 0, locals := 43 }) s m ([.ref n0, .int p1] : List Value).toArray below meth c H locs 0 0 (MQ below (va_Qv (fun (u : va_W) => u = [(n0, .inr (6, [.ref n_tape, .int ztaped, .ref n_isThere, .ref n_size, .ref n_depth, .ref n_memory, .ref n_register, .ref n_mode, .ref n_pc, .ref n_base, .ref n_bound, .ref n_timer, .ref n_ranOut, .ref n_halted, .ref n_steps, .ref n_outs, .ref n_output, .ref n_waits, .ref n_typed, .ref n_disk, .ref n_wants, .int o_zat, .int zend, .int zline, .ref n_labelFrom, .ref n_labelSize, .ref n_labelAddress, .int zlabels, .int zfault, .int zfaultLine, .int zisTold, .int zaddress, .ref n_made, .int zmissing, .int o_zgood, .int o_zvalue, .int o_zvalueFrom, .int o_zvalueSize, .int zme])), (n_tape, .inl (E.2.1 2, 3000, .inl ztape))]) (BW E A) A) ([.ref n0, .int p1] : List Value).toArray s 0 0 A) (F0 m 85 ls []) := by
  intro ztaped zat zend zline zlabels zfault zfaultLine zisTold zaddress zmissing zgood zvalue zvalueFrom zvalueSize zme ztape H locs ls h hP hD hS hl
  rw [b_MD_value_85] at h
  refine lv_aload_n J.1 J.2.1 d_MD_value_85 rfl (lv_at hl 0 rfl) ?_
  refine lv_dup J.1 J.2.1 d_MD_value_86 rfl ?_
  refine jg J hJ hP 0 rfl rfl i_MD 21 (by decide) gf_MD_95 rfl d_MD_value_87 ?_
  refine lv_aload_n J.1 J.2.1 d_MD_value_90 rfl (lv_at hl 0 rfl) ?_
  refine jg J hJ hP 0 rfl rfl i_MD 37 (by decide) gf_MD_188 rfl d_MD_value_91 ?_
  refine lv_iadd J.1 J.2.1 d_MD_value_94 ?_
  refine jp J hJ hP hD hS 0 rfl rfl i_MD t_MD t_MD_ok n_MD 21 (by decide) gf_MD_95 rfl rfl rfl (Nat.le_of_ble_eq_true rfl) d_MD_value_95 (WS' := [(n0, .inr (6, [.ref n_tape, .int ztaped, .ref n_isThere, .ref n_size, .ref n_depth, .ref n_memory, .ref n_register, .ref n_mode, .ref n_pc, .ref n_base, .ref n_bound, .ref n_timer, .ref n_ranOut, .ref n_halted, .ref n_steps, .ref n_outs, .ref n_output, .ref n_waits, .ref n_typed, .ref n_disk, .ref n_wants, .int (zat + zvalueSize), .int zend, .int zline, .ref n_labelFrom, .ref n_labelSize, .ref n_labelAddress, .int zlabels, .int zfault, .int zfaultLine, .int zisTold, .int zaddress, .ref n_made, .int zmissing, .int zgood, .int zvalue, .int zvalueFrom, .int zvalueSize, .int zme])), (n_tape, .inl (E.2.1 2, 3000, .inl ztape))]) rfl ?_
  clear hP hD hS
  intro H locs hP hD hS
  refine lv_aload_n J.1 J.2.1 d_MD_value_98 rfl (lv_at hl 0 rfl) ?_
  refine jg J hJ hP 0 rfl rfl i_MD 34 (by decide) gf_MD_177 rfl d_MD_value_99 ?_
  refine lv_if_eq (tgt := 136) J.1 J.2.1 d_MD_value_102 (by decide) (fun c_1 => ?_) (fun c_1 => ?_)
  · replace h := g_t c_1 h
    have h := Option.some.inj h
    have e_0 := (Prod.mk.inj h).1
    have h := (Prod.mk.inj h).2
    have e_1 := (Prod.mk.inj h).1
    have h := (Prod.mk.inj h).2
    have e_2 := (Prod.mk.inj h).1
    have h := (Prod.mk.inj h).2
    have e_3 := (Prod.mk.inj h).1
    have h := (Prod.mk.inj h).2
    rw [← e_0, ← e_1, ← e_2, ← e_3, ← h]
    exact jr_v J hS hP hD d_MD_value_136
  · replace h := g_f c_1 h
    refine lv_aload_n J.1 J.2.1 d_MD_value_105 rfl (lv_at hl 0 rfl) ?_
    refine lv_aload_n J.1 J.2.1 d_MD_value_106 rfl (lv_at hl 0 rfl) ?_
    refine jg J hJ hP 0 rfl rfl i_MD 21 (by decide) gf_MD_95 rfl d_MD_value_107 ?_
    replace h := g_bd h
    obtain ⟨r_2, q_2, h⟩ := h
    have hq := ct_MD_byteAt l E n0 n_base n_bound n_depth n_disk n_halted n_isThere n_labelAddress n_labelFrom n_labelSize n_made n_memory n_mode n_output n_outs n_pc n_ranOut n_register n_size n_steps n_tape n_timer n_typed n_waits n_wants H.size ztaped (zat + zvalueSize) zend zline zlabels zfault zfaultLine zisTold zaddress zmissing zgood zvalue zvalueFrom zvalueSize zme ztape (zat + zvalueSize) r_2 q_2
    have hr := jrunV (p := p) (e := e) (below := below) (R := ({ frames := 2, cells := 0, slots := 0, locals := 43 })) (cells := 0) (slots := 0) (As := [.int (zat + zvalueSize)]) (rest := []) J hJ hA hZ hP hD hS hq [0, 1] rfl (by decide) gl_MD_98 gi_MD_byteAt gsel_MD_byteAt gini_MD gc_MD_byteAt hd_MD_byteAt ⟨rfl, rfl, Nat.le_of_ble_eq_true rfl, Nat.le_of_ble_eq_true rfl⟩ rfl rfl hl.1 rfl rfl (Nat.le_of_ble_eq_true rfl) d_MD_value_110 ⟨Nat.zero_le _, Nat.zero_le _⟩
    clear hq
    refine jk_i hr hA hP hD hS [0, 1] [] (WR := []) rfl rfl (by decide) (by decide) [0, 1] (WF := [(n0, .inr (6, [.ref n_tape, .int ztaped, .ref n_isThere, .ref n_size, .ref n_depth, .ref n_memory, .ref n_register, .ref n_mode, .ref n_pc, .ref n_base, .ref n_bound, .ref n_timer, .ref n_ranOut, .ref n_halted, .ref n_steps, .ref n_outs, .ref n_output, .ref n_waits, .ref n_typed, .ref n_disk, .ref n_wants, .int (zat + zvalueSize), .int zend, .int zline, .ref n_labelFrom, .ref n_labelSize, .ref n_labelAddress, .int zlabels, .int zfault, .int zfaultLine, .int zisTold, .int zaddress, .ref n_made, .int zmissing, .int zgood, .int zvalue, .int zvalueFrom, .int zvalueSize, .int zme])), (n_tape, .inl (E.2.1 2, 3000, .inl ztape))]) rfl (by decide) ?_
    clear hP hD hS
    intro H locs hP hD hS
    clear hr
    refine lv_bipush (v := 43) J.1 J.2.1 d_MD_value_113 (by decide) ?_
    refine lv_icmp_ne (tgt := 136) J.1 J.2.1 d_MD_value_115 (by decide) (fun c_3 => ?_) (fun c_3 => ?_)
    · replace h := g_f c_3 h
      have h := Option.some.inj h
      have e_0 := (Prod.mk.inj h).1
      have h := (Prod.mk.inj h).2
      have e_1 := (Prod.mk.inj h).1
      have h := (Prod.mk.inj h).2
      have e_2 := (Prod.mk.inj h).1
      have h := (Prod.mk.inj h).2
      have e_3 := (Prod.mk.inj h).1
      have h := (Prod.mk.inj h).2
      rw [← e_0, ← e_1, ← e_2, ← e_3, ← h]
      exact jr_v J hS hP hD d_MD_value_136
    · replace h := g_t c_3 h
      refine lv_aload_n J.1 J.2.1 d_MD_value_118 rfl (lv_at hl 0 rfl) ?_
      refine lv_dup J.1 J.2.1 d_MD_value_119 rfl ?_
      refine jg J hJ hP 0 rfl rfl i_MD 21 (by decide) gf_MD_95 rfl d_MD_value_120 ?_
      refine lv_iconst (v := 1) J.1 J.2.1 d_MD_value_123 (by decide) ?_
      refine lv_iadd J.1 J.2.1 d_MD_value_124 ?_
      refine jp J hJ hP hD hS 0 rfl rfl i_MD t_MD t_MD_ok n_MD 21 (by decide) gf_MD_95 rfl rfl rfl (Nat.le_of_ble_eq_true rfl) d_MD_value_125 (WS' := [(n0, .inr (6, [.ref n_tape, .int ztaped, .ref n_isThere, .ref n_size, .ref n_depth, .ref n_memory, .ref n_register, .ref n_mode, .ref n_pc, .ref n_base, .ref n_bound, .ref n_timer, .ref n_ranOut, .ref n_halted, .ref n_steps, .ref n_outs, .ref n_output, .ref n_waits, .ref n_typed, .ref n_disk, .ref n_wants, .int ((zat + zvalueSize) + 1), .int zend, .int zline, .ref n_labelFrom, .ref n_labelSize, .ref n_labelAddress, .int zlabels, .int zfault, .int zfaultLine, .int zisTold, .int zaddress, .ref n_made, .int zmissing, .int zgood, .int zvalue, .int zvalueFrom, .int zvalueSize, .int zme])), (n_tape, .inl (E.2.1 2, 3000, .inl ztape))]) rfl ?_
      clear hP hD hS
      intro H locs hP hD hS
      refine lv_aload_n J.1 J.2.1 d_MD_value_128 rfl (lv_at hl 0 rfl) ?_
      refine lv_aload_n J.1 J.2.1 d_MD_value_129 rfl (lv_at hl 0 rfl) ?_
      replace h := g_bd h
      obtain ⟨⟨r_4, zat_4, zgood_4⟩, q_4, h⟩ := h
      try dsimp only at h
      have hq := ct_MD_number l E n0 n_base n_bound n_depth n_disk n_halted n_isThere n_labelAddress n_labelFrom n_labelSize n_made n_memory n_mode n_output n_outs n_pc n_ranOut n_register n_size n_steps n_tape n_timer n_typed n_waits n_wants H.size ztaped ((zat + zvalueSize) + 1) zend zline zlabels zfault zfaultLine zisTold zaddress zmissing zgood zvalue zvalueFrom zvalueSize zme ztape r_4 zat_4 zgood_4 q_4
      have hr := jrunV (p := p) (e := e) (below := below) (R := ({ frames := 2, cells := 0, slots := 0, locals := 43 })) (cells := 0) (slots := 0) (As := []) (rest := [.ref n0]) J hJ hA hZ hP hD hS hq [0, 1] rfl (by decide) gl_MD_194 gi_MD_number gsel_MD_number gini_MD gc_MD_number hd_MD_number ⟨rfl, rfl, Nat.le_of_ble_eq_true rfl, Nat.le_of_ble_eq_true rfl⟩ rfl rfl hl.1 rfl rfl (Nat.le_of_ble_eq_true rfl) d_MD_value_130 ⟨Nat.zero_le _, Nat.zero_le _⟩
      clear hq
      refine jk_i hr hA hP hD hS [0, 1] [] (WR := []) rfl rfl (by decide) (by decide) [0, 1] (WF := [(n0, .inr (6, [.ref n_tape, .int ztaped, .ref n_isThere, .ref n_size, .ref n_depth, .ref n_memory, .ref n_register, .ref n_mode, .ref n_pc, .ref n_base, .ref n_bound, .ref n_timer, .ref n_ranOut, .ref n_halted, .ref n_steps, .ref n_outs, .ref n_output, .ref n_waits, .ref n_typed, .ref n_disk, .ref n_wants, .int zat_4, .int zend, .int zline, .ref n_labelFrom, .ref n_labelSize, .ref n_labelAddress, .int zlabels, .int zfault, .int zfaultLine, .int zisTold, .int zaddress, .ref n_made, .int zmissing, .int zgood_4, .int zvalue, .int zvalueFrom, .int zvalueSize, .int zme])), (n_tape, .inl (E.2.1 2, 3000, .inl ztape))]) rfl (by decide) ?_
      clear hP hD hS
      intro H locs hP hD hS
      clear hr
      refine jp J hJ hP hD hS 0 rfl rfl i_MD t_MD t_MD_ok n_MD 35 (by decide) gf_MD_191 rfl rfl rfl (Nat.le_of_ble_eq_true rfl) d_MD_value_133 (WS' := [(n0, .inr (6, [.ref n_tape, .int ztaped, .ref n_isThere, .ref n_size, .ref n_depth, .ref n_memory, .ref n_register, .ref n_mode, .ref n_pc, .ref n_base, .ref n_bound, .ref n_timer, .ref n_ranOut, .ref n_halted, .ref n_steps, .ref n_outs, .ref n_output, .ref n_waits, .ref n_typed, .ref n_disk, .ref n_wants, .int zat_4, .int zend, .int zline, .ref n_labelFrom, .ref n_labelSize, .ref n_labelAddress, .int zlabels, .int zfault, .int zfaultLine, .int zisTold, .int zaddress, .ref n_made, .int zmissing, .int zgood_4, .int r_4, .int zvalueFrom, .int zvalueSize, .int zme])), (n_tape, .inl (E.2.1 2, 3000, .inl ztape))]) rfl ?_
      clear hP hD hS
      intro H locs hP hD hS
      have h := Option.some.inj h
      have e_0 := (Prod.mk.inj h).1
      have h := (Prod.mk.inj h).2
      have e_1 := (Prod.mk.inj h).1
      have h := (Prod.mk.inj h).2
      have e_2 := (Prod.mk.inj h).1
      have h := (Prod.mk.inj h).2
      have e_3 := (Prod.mk.inj h).1
      have h := (Prod.mk.inj h).2
      rw [← e_0, ← e_1, ← e_2, ← e_3, ← h]
      exact jr_v J hS hP hD d_MD_value_136
set_option maxHeartbeats 4000000 in
set_option maxRecDepth 100000 in
theorem ct_MD_value (l : Launch) (E : jz_E) (n0 n_base n_bound n_depth n_disk n_halted n_isThere n_labelAddress n_labelFrom n_labelSize n_made n_memory n_mode n_output n_outs n_pc n_ranOut n_register n_size n_steps n_tape n_timer n_typed n_waits n_wants : Nat) (sz : Nat) (ztaped : Int32) (zat : Int32) (zend : Int32) (zline : Int32) (zlabels : Int32) (zfault : Int32) (zfaultLine : Int32) (zisTold : Int32) (zaddress : Int32) (zmissing : Int32) (zgood : Int32) (zvalue : Int32) (zvalueFrom : Int32) (zvalueSize : Int32) (zme : Int32) (ztape : Nat → Int32) (p1 : Int32) (o_zat : Int32) (o_zgood : Int32) (o_zvalue : Int32) (o_zvalueFrom : Int32) (o_zvalueSize : Int32)  (h : f_MD_value zat zend zgood zvalueFrom ztape p1 = some (o_zat, o_zgood, o_zvalue, o_zvalueFrom, o_zvalueSize)) : CTv l E y_MD_value c_MD_value 2 none ({ frames := 2, cells := 0, slots := 0, locals := 43 }) [.ref n0, .int p1] [(n0, .inr (6, [.ref n_tape, .int ztaped, .ref n_isThere, .ref n_size, .ref n_depth, .ref n_memory, .ref n_register, .ref n_mode, .ref n_pc, .ref n_base, .ref n_bound, .ref n_timer, .ref n_ranOut, .ref n_halted, .ref n_steps, .ref n_outs, .ref n_output, .ref n_waits, .ref n_typed, .ref n_disk, .ref n_wants, .int zat, .int zend, .int zline, .ref n_labelFrom, .ref n_labelSize, .ref n_labelAddress, .int zlabels, .int zfault, .int zfaultLine, .int zisTold, .int zaddress, .ref n_made, .int zmissing, .int zgood, .int zvalue, .int zvalueFrom, .int zvalueSize, .int zme])), (n_tape, .inl (E.2.1 2, 3000, .inl ztape))] sz [(n0, .inr (6, [.ref n_tape, .int ztaped, .ref n_isThere, .ref n_size, .ref n_depth, .ref n_memory, .ref n_register, .ref n_mode, .ref n_pc, .ref n_base, .ref n_bound, .ref n_timer, .ref n_ranOut, .ref n_halted, .ref n_steps, .ref n_outs, .ref n_output, .ref n_waits, .ref n_typed, .ref n_disk, .ref n_wants, .int o_zat, .int zend, .int zline, .ref n_labelFrom, .ref n_labelSize, .ref n_labelAddress, .int zlabels, .int zfault, .int zfaultLine, .int zisTold, .int zaddress, .ref n_made, .int zmissing, .int o_zgood, .int o_zvalue, .int o_zvalueFrom, .int o_zvalueSize, .int zme])), (n_tape, .inl (E.2.1 2, 3000, .inl ztape))] := by
  refine jw (by decide +kernel) (Nat.le_of_ble_eq_true rfl) ?_
  intro p e s m below meth c A ls J hJ hAe hsz hA hZ hP hD hl
  rw [← hAe]
  have hS : va_S A s.heap s.heap [] := va_S.rf
  have hl : lv_has ls 2 [(0, .ref n0), (1, .int p1)] := hl
  unfold f_MD_value at h
  refine lv_aload_n J.1 J.2.1 d_MD_value_0 rfl (lv_at hl 0 rfl) ?_
  replace h := g_bd h
  obtain ⟨⟨zat_5, zgood_5⟩, q_5, h⟩ := h
  try dsimp only at h
  have hq := ct_MD_gap l E n0 n_base n_bound n_depth n_disk n_halted n_isThere n_labelAddress n_labelFrom n_labelSize n_made n_memory n_mode n_output n_outs n_pc n_ranOut n_register n_size n_steps n_tape n_timer n_typed n_waits n_wants s.heap.size ztaped zat zend zline zlabels zfault zfaultLine zisTold zaddress zmissing zgood zvalue zvalueFrom zvalueSize zme ztape zat_5 zgood_5 q_5
  have hr := jrunV (p := p) (e := e) (below := below) (R := ({ frames := 2, cells := 0, slots := 0, locals := 43 })) (cells := 0) (slots := 0) (As := []) (rest := []) J hJ hA hZ hP hD hS hq [0, 1] rfl (by decide) gl_MD_184 gi_MD_gap gsel_MD_gap gini_MD gc_MD_gap hd_MD_gap ⟨rfl, rfl, Nat.le_of_ble_eq_true rfl, Nat.le_of_ble_eq_true rfl⟩ rfl rfl hl.1 rfl rfl (Nat.le_of_ble_eq_true rfl) d_MD_value_1 ⟨Nat.zero_le _, Nat.zero_le _⟩
  clear hq
  refine jk_v hr hA hP hD hS [0, 1] [] (WR := []) rfl rfl (by decide) (by decide) [0, 1] (WF := [(n0, .inr (6, [.ref n_tape, .int ztaped, .ref n_isThere, .ref n_size, .ref n_depth, .ref n_memory, .ref n_register, .ref n_mode, .ref n_pc, .ref n_base, .ref n_bound, .ref n_timer, .ref n_ranOut, .ref n_halted, .ref n_steps, .ref n_outs, .ref n_output, .ref n_waits, .ref n_typed, .ref n_disk, .ref n_wants, .int zat_5, .int zend, .int zline, .ref n_labelFrom, .ref n_labelSize, .ref n_labelAddress, .int zlabels, .int zfault, .int zfaultLine, .int zisTold, .int zaddress, .ref n_made, .int zmissing, .int zgood_5, .int zvalue, .int zvalueFrom, .int zvalueSize, .int zme])), (n_tape, .inl (E.2.1 2, 3000, .inl ztape))]) rfl (by decide) ?_
  clear hP hD hS
  intro H locs hP hD hS
  clear hr
  refine lv_aload_n J.1 J.2.1 d_MD_value_4 rfl (lv_at hl 0 rfl) ?_
  refine lv_iconst (v := 0) J.1 J.2.1 d_MD_value_5 (by decide) ?_
  refine jp J hJ hP hD hS 0 rfl rfl i_MD t_MD t_MD_ok n_MD 37 (by decide) gf_MD_188 rfl rfl rfl (Nat.le_of_ble_eq_true rfl) d_MD_value_6 (WS' := [(n0, .inr (6, [.ref n_tape, .int ztaped, .ref n_isThere, .ref n_size, .ref n_depth, .ref n_memory, .ref n_register, .ref n_mode, .ref n_pc, .ref n_base, .ref n_bound, .ref n_timer, .ref n_ranOut, .ref n_halted, .ref n_steps, .ref n_outs, .ref n_output, .ref n_waits, .ref n_typed, .ref n_disk, .ref n_wants, .int zat_5, .int zend, .int zline, .ref n_labelFrom, .ref n_labelSize, .ref n_labelAddress, .int zlabels, .int zfault, .int zfaultLine, .int zisTold, .int zaddress, .ref n_made, .int zmissing, .int zgood_5, .int zvalue, .int zvalueFrom, .int 0, .int zme])), (n_tape, .inl (E.2.1 2, 3000, .inl ztape))]) rfl ?_
  clear hP hD hS
  intro H locs hP hD hS
  refine lv_aload_n J.1 J.2.1 d_MD_value_9 rfl (lv_at hl 0 rfl) ?_
  refine lv_iconst (v := 0) J.1 J.2.1 d_MD_value_10 (by decide) ?_
  refine jp J hJ hP hD hS 0 rfl rfl i_MD t_MD t_MD_ok n_MD 35 (by decide) gf_MD_191 rfl rfl rfl (Nat.le_of_ble_eq_true rfl) d_MD_value_11 (WS' := [(n0, .inr (6, [.ref n_tape, .int ztaped, .ref n_isThere, .ref n_size, .ref n_depth, .ref n_memory, .ref n_register, .ref n_mode, .ref n_pc, .ref n_base, .ref n_bound, .ref n_timer, .ref n_ranOut, .ref n_halted, .ref n_steps, .ref n_outs, .ref n_output, .ref n_waits, .ref n_typed, .ref n_disk, .ref n_wants, .int zat_5, .int zend, .int zline, .ref n_labelFrom, .ref n_labelSize, .ref n_labelAddress, .int zlabels, .int zfault, .int zfaultLine, .int zisTold, .int zaddress, .ref n_made, .int zmissing, .int zgood_5, .int 0, .int zvalueFrom, .int 0, .int zme])), (n_tape, .inl (E.2.1 2, 3000, .inl ztape))]) rfl ?_
  clear hP hD hS
  intro H locs hP hD hS
  refine lv_aload_n J.1 J.2.1 d_MD_value_14 rfl (lv_at hl 0 rfl) ?_
  refine jg J hJ hP 0 rfl rfl i_MD 34 (by decide) gf_MD_177 rfl d_MD_value_15 ?_
  refine lv_if_ne (tgt := 22) J.1 J.2.1 d_MD_value_18 (by decide) (fun c_6 => ?_) (fun c_6 => ?_)
  · replace h := g_f c_6 h
    refine lv_iload_n J.1 J.2.1 d_MD_value_22 rfl (lv_at hl 1 rfl) ?_
    refine lv_if_ne (tgt := 40) J.1 J.2.1 d_MD_value_23 (by decide) (fun c_7 => ?_) (fun c_7 => ?_)
    · replace h := g_f c_7 h
      refine lv_aload_n J.1 J.2.1 d_MD_value_40 rfl (lv_at hl 0 rfl) ?_
      refine lv_aload_n J.1 J.2.1 d_MD_value_41 rfl (lv_at hl 0 rfl) ?_
      replace h := g_bd h
      obtain ⟨⟨r_8, zat_8, zgood_8⟩, q_8, h⟩ := h
      try dsimp only at h
      have hq := ct_MD_number l E n0 n_base n_bound n_depth n_disk n_halted n_isThere n_labelAddress n_labelFrom n_labelSize n_made n_memory n_mode n_output n_outs n_pc n_ranOut n_register n_size n_steps n_tape n_timer n_typed n_waits n_wants H.size ztaped zat_5 zend zline zlabels zfault zfaultLine zisTold zaddress zmissing zgood_5 0 zvalueFrom 0 zme ztape r_8 zat_8 zgood_8 q_8
      have hr := jrunV (p := p) (e := e) (below := below) (R := ({ frames := 2, cells := 0, slots := 0, locals := 43 })) (cells := 0) (slots := 0) (As := []) (rest := [.ref n0]) J hJ hA hZ hP hD hS hq [0, 1] rfl (by decide) gl_MD_194 gi_MD_number gsel_MD_number gini_MD gc_MD_number hd_MD_number ⟨rfl, rfl, Nat.le_of_ble_eq_true rfl, Nat.le_of_ble_eq_true rfl⟩ rfl rfl hl.1 rfl rfl (Nat.le_of_ble_eq_true rfl) d_MD_value_42 ⟨Nat.zero_le _, Nat.zero_le _⟩
      clear hq
      refine jk_i hr hA hP hD hS [0, 1] [] (WR := []) rfl rfl (by decide) (by decide) [0, 1] (WF := [(n0, .inr (6, [.ref n_tape, .int ztaped, .ref n_isThere, .ref n_size, .ref n_depth, .ref n_memory, .ref n_register, .ref n_mode, .ref n_pc, .ref n_base, .ref n_bound, .ref n_timer, .ref n_ranOut, .ref n_halted, .ref n_steps, .ref n_outs, .ref n_output, .ref n_waits, .ref n_typed, .ref n_disk, .ref n_wants, .int zat_8, .int zend, .int zline, .ref n_labelFrom, .ref n_labelSize, .ref n_labelAddress, .int zlabels, .int zfault, .int zfaultLine, .int zisTold, .int zaddress, .ref n_made, .int zmissing, .int zgood_8, .int 0, .int zvalueFrom, .int 0, .int zme])), (n_tape, .inl (E.2.1 2, 3000, .inl ztape))]) rfl (by decide) ?_
      clear hP hD hS
      intro H locs hP hD hS
      clear hr
      refine jp J hJ hP hD hS 0 rfl rfl i_MD t_MD t_MD_ok n_MD 35 (by decide) gf_MD_191 rfl rfl rfl (Nat.le_of_ble_eq_true rfl) d_MD_value_45 (WS' := [(n0, .inr (6, [.ref n_tape, .int ztaped, .ref n_isThere, .ref n_size, .ref n_depth, .ref n_memory, .ref n_register, .ref n_mode, .ref n_pc, .ref n_base, .ref n_bound, .ref n_timer, .ref n_ranOut, .ref n_halted, .ref n_steps, .ref n_outs, .ref n_output, .ref n_waits, .ref n_typed, .ref n_disk, .ref n_wants, .int zat_8, .int zend, .int zline, .ref n_labelFrom, .ref n_labelSize, .ref n_labelAddress, .int zlabels, .int zfault, .int zfaultLine, .int zisTold, .int zaddress, .ref n_made, .int zmissing, .int zgood_8, .int r_8, .int zvalueFrom, .int 0, .int zme])), (n_tape, .inl (E.2.1 2, 3000, .inl ztape))]) rfl ?_
      clear hP hD hS
      intro H locs hP hD hS
      have h := Option.some.inj h
      have e_0 := (Prod.mk.inj h).1
      have h := (Prod.mk.inj h).2
      have e_1 := (Prod.mk.inj h).1
      have h := (Prod.mk.inj h).2
      have e_2 := (Prod.mk.inj h).1
      have h := (Prod.mk.inj h).2
      have e_3 := (Prod.mk.inj h).1
      have h := (Prod.mk.inj h).2
      rw [← e_0, ← e_1, ← e_2, ← e_3, ← h]
      exact jr_v J hS hP hD d_MD_value_48
    · replace h := g_t c_7 h
      refine lv_aload_n J.1 J.2.1 d_MD_value_26 rfl (lv_at hl 0 rfl) ?_
      refine lv_aload_n J.1 J.2.1 d_MD_value_27 rfl (lv_at hl 0 rfl) ?_
      refine jg J hJ hP 0 rfl rfl i_MD 21 (by decide) gf_MD_95 rfl d_MD_value_28 ?_
      replace h := g_bd h
      obtain ⟨r_9, q_9, h⟩ := h
      have hq := ct_MD_byteAt l E n0 n_base n_bound n_depth n_disk n_halted n_isThere n_labelAddress n_labelFrom n_labelSize n_made n_memory n_mode n_output n_outs n_pc n_ranOut n_register n_size n_steps n_tape n_timer n_typed n_waits n_wants H.size ztaped zat_5 zend zline zlabels zfault zfaultLine zisTold zaddress zmissing zgood_5 0 zvalueFrom 0 zme ztape zat_5 r_9 q_9
      have hr := jrunV (p := p) (e := e) (below := below) (R := ({ frames := 2, cells := 0, slots := 0, locals := 43 })) (cells := 0) (slots := 0) (As := [.int zat_5]) (rest := []) J hJ hA hZ hP hD hS hq [0, 1] rfl (by decide) gl_MD_98 gi_MD_byteAt gsel_MD_byteAt gini_MD gc_MD_byteAt hd_MD_byteAt ⟨rfl, rfl, Nat.le_of_ble_eq_true rfl, Nat.le_of_ble_eq_true rfl⟩ rfl rfl hl.1 rfl rfl (Nat.le_of_ble_eq_true rfl) d_MD_value_31 ⟨Nat.zero_le _, Nat.zero_le _⟩
      clear hq
      refine jk_i hr hA hP hD hS [0, 1] [] (WR := []) rfl rfl (by decide) (by decide) [0, 1] (WF := [(n0, .inr (6, [.ref n_tape, .int ztaped, .ref n_isThere, .ref n_size, .ref n_depth, .ref n_memory, .ref n_register, .ref n_mode, .ref n_pc, .ref n_base, .ref n_bound, .ref n_timer, .ref n_ranOut, .ref n_halted, .ref n_steps, .ref n_outs, .ref n_output, .ref n_waits, .ref n_typed, .ref n_disk, .ref n_wants, .int zat_5, .int zend, .int zline, .ref n_labelFrom, .ref n_labelSize, .ref n_labelAddress, .int zlabels, .int zfault, .int zfaultLine, .int zisTold, .int zaddress, .ref n_made, .int zmissing, .int zgood_5, .int 0, .int zvalueFrom, .int 0, .int zme])), (n_tape, .inl (E.2.1 2, 3000, .inl ztape))]) rfl (by decide) ?_
      clear hP hD hS
      intro H locs hP hD hS
      clear hr
      replace h := g_bd h
      obtain ⟨r_10, q_10, h⟩ := h
      have hq := ct_MD_isDigit l E  H.size  r_9 r_10 q_10
      have hr := jrunS (p := p) (e := e) (below := below) (R := ({ frames := 2, cells := 0, slots := 0, locals := 43 })) (cells := 0) (slots := 0) (As := [.int r_9]) (rest := []) J hJ hA hZ hP hD hS hq [] rfl (by decide) gl_MD_106 gs_MD_isDigit gini_MD gc_MD_isDigit hd_MD_isDigit ⟨rfl, rfl, Nat.le_of_ble_eq_true rfl, Nat.le_of_ble_eq_true rfl⟩ hl.1 rfl rfl (Nat.le_of_ble_eq_true rfl) d_MD_value_34 ⟨Nat.zero_le _, Nat.zero_le _⟩
      clear hq
      refine jk_i hr hA hP hD hS [] [0, 1] (WR := [(n0, .inr (6, [.ref n_tape, .int ztaped, .ref n_isThere, .ref n_size, .ref n_depth, .ref n_memory, .ref n_register, .ref n_mode, .ref n_pc, .ref n_base, .ref n_bound, .ref n_timer, .ref n_ranOut, .ref n_halted, .ref n_steps, .ref n_outs, .ref n_output, .ref n_waits, .ref n_typed, .ref n_disk, .ref n_wants, .int zat_5, .int zend, .int zline, .ref n_labelFrom, .ref n_labelSize, .ref n_labelAddress, .int zlabels, .int zfault, .int zfaultLine, .int zisTold, .int zaddress, .ref n_made, .int zmissing, .int zgood_5, .int 0, .int zvalueFrom, .int 0, .int zme])), (n_tape, .inl (E.2.1 2, 3000, .inl ztape))]) rfl rfl (by decide) (by decide) [0, 1] (WF := [(n0, .inr (6, [.ref n_tape, .int ztaped, .ref n_isThere, .ref n_size, .ref n_depth, .ref n_memory, .ref n_register, .ref n_mode, .ref n_pc, .ref n_base, .ref n_bound, .ref n_timer, .ref n_ranOut, .ref n_halted, .ref n_steps, .ref n_outs, .ref n_output, .ref n_waits, .ref n_typed, .ref n_disk, .ref n_wants, .int zat_5, .int zend, .int zline, .ref n_labelFrom, .ref n_labelSize, .ref n_labelAddress, .int zlabels, .int zfault, .int zfaultLine, .int zisTold, .int zaddress, .ref n_made, .int zmissing, .int zgood_5, .int 0, .int zvalueFrom, .int 0, .int zme])), (n_tape, .inl (E.2.1 2, 3000, .inl ztape))]) rfl (by decide) ?_
      clear hP hD hS
      intro H locs hP hD hS
      clear hr
      refine lv_if_eq (tgt := 49) J.1 J.2.1 d_MD_value_37 (by decide) (fun c_11 => ?_) (fun c_11 => ?_)
      · replace h := g_t c_11 h
        refine lv_aload_n J.1 J.2.1 d_MD_value_49 rfl (lv_at hl 0 rfl) ?_
        refine lv_aload_n J.1 J.2.1 d_MD_value_50 rfl (lv_at hl 0 rfl) ?_
        refine jg J hJ hP 0 rfl rfl i_MD 21 (by decide) gf_MD_95 rfl d_MD_value_51 ?_
        refine jp J hJ hP hD hS 0 rfl rfl i_MD t_MD t_MD_ok n_MD 36 (by decide) gf_MD_198 rfl rfl rfl (Nat.le_of_ble_eq_true rfl) d_MD_value_54 (WS' := [(n0, .inr (6, [.ref n_tape, .int ztaped, .ref n_isThere, .ref n_size, .ref n_depth, .ref n_memory, .ref n_register, .ref n_mode, .ref n_pc, .ref n_base, .ref n_bound, .ref n_timer, .ref n_ranOut, .ref n_halted, .ref n_steps, .ref n_outs, .ref n_output, .ref n_waits, .ref n_typed, .ref n_disk, .ref n_wants, .int zat_5, .int zend, .int zline, .ref n_labelFrom, .ref n_labelSize, .ref n_labelAddress, .int zlabels, .int zfault, .int zfaultLine, .int zisTold, .int zaddress, .ref n_made, .int zmissing, .int zgood_5, .int 0, .int zat_5, .int 0, .int zme])), (n_tape, .inl (E.2.1 2, 3000, .inl ztape))]) rfl ?_
        clear hP hD hS
        intro H locs hP hD hS
        refine lv_aload_n J.1 J.2.1 d_MD_value_57 rfl (lv_at hl 0 rfl) ?_
        refine lv_aload_n J.1 J.2.1 d_MD_value_58 rfl (lv_at hl 0 rfl) ?_
        refine lv_aload_n J.1 J.2.1 d_MD_value_59 rfl (lv_at hl 0 rfl) ?_
        refine jg J hJ hP 0 rfl rfl i_MD 21 (by decide) gf_MD_95 rfl d_MD_value_60 ?_
        replace h := g_bd h
        obtain ⟨r_12, q_12, h⟩ := h
        have hq := ct_MD_nameAt l E n0 n_base n_bound n_depth n_disk n_halted n_isThere n_labelAddress n_labelFrom n_labelSize n_made n_memory n_mode n_output n_outs n_pc n_ranOut n_register n_size n_steps n_tape n_timer n_typed n_waits n_wants H.size ztaped zat_5 zend zline zlabels zfault zfaultLine zisTold zaddress zmissing zgood_5 0 zat_5 0 zme ztape zat_5 r_12 q_12
        have hr := jrunV (p := p) (e := e) (below := below) (R := ({ frames := 2, cells := 0, slots := 0, locals := 43 })) (cells := 0) (slots := 0) (As := [.int zat_5]) (rest := [.ref n0]) J hJ hA hZ hP hD hS hq [0, 1] rfl (by decide) gl_MD_201 gi_MD_nameAt gsel_MD_nameAt gini_MD gc_MD_nameAt hd_MD_nameAt ⟨rfl, rfl, Nat.le_of_ble_eq_true rfl, Nat.le_of_ble_eq_true rfl⟩ rfl rfl hl.1 rfl rfl (Nat.le_of_ble_eq_true rfl) d_MD_value_63 ⟨Nat.zero_le _, Nat.zero_le _⟩
        clear hq
        refine jk_i hr hA hP hD hS [0, 1] [] (WR := []) rfl rfl (by decide) (by decide) [0, 1] (WF := [(n0, .inr (6, [.ref n_tape, .int ztaped, .ref n_isThere, .ref n_size, .ref n_depth, .ref n_memory, .ref n_register, .ref n_mode, .ref n_pc, .ref n_base, .ref n_bound, .ref n_timer, .ref n_ranOut, .ref n_halted, .ref n_steps, .ref n_outs, .ref n_output, .ref n_waits, .ref n_typed, .ref n_disk, .ref n_wants, .int zat_5, .int zend, .int zline, .ref n_labelFrom, .ref n_labelSize, .ref n_labelAddress, .int zlabels, .int zfault, .int zfaultLine, .int zisTold, .int zaddress, .ref n_made, .int zmissing, .int zgood_5, .int 0, .int zat_5, .int 0, .int zme])), (n_tape, .inl (E.2.1 2, 3000, .inl ztape))]) rfl (by decide) ?_
        clear hP hD hS
        intro H locs hP hD hS
        clear hr
        refine jp J hJ hP hD hS 0 rfl rfl i_MD t_MD t_MD_ok n_MD 37 (by decide) gf_MD_188 rfl rfl rfl (Nat.le_of_ble_eq_true rfl) d_MD_value_66 (WS' := [(n0, .inr (6, [.ref n_tape, .int ztaped, .ref n_isThere, .ref n_size, .ref n_depth, .ref n_memory, .ref n_register, .ref n_mode, .ref n_pc, .ref n_base, .ref n_bound, .ref n_timer, .ref n_ranOut, .ref n_halted, .ref n_steps, .ref n_outs, .ref n_output, .ref n_waits, .ref n_typed, .ref n_disk, .ref n_wants, .int zat_5, .int zend, .int zline, .ref n_labelFrom, .ref n_labelSize, .ref n_labelAddress, .int zlabels, .int zfault, .int zfaultLine, .int zisTold, .int zaddress, .ref n_made, .int zmissing, .int zgood_5, .int 0, .int zat_5, .int r_12, .int zme])), (n_tape, .inl (E.2.1 2, 3000, .inl ztape))]) rfl ?_
        clear hP hD hS
        intro H locs hP hD hS
        refine lv_aload_n J.1 J.2.1 d_MD_value_69 rfl (lv_at hl 0 rfl) ?_
        refine lv_aload_n J.1 J.2.1 d_MD_value_70 rfl (lv_at hl 0 rfl) ?_
        refine jg J hJ hP 0 rfl rfl i_MD 37 (by decide) gf_MD_188 rfl d_MD_value_71 ?_
        refine lv_if_le (tgt := 81) J.1 J.2.1 d_MD_value_74 (by decide) (fun c_13 => ?_) (fun c_13 => ?_)
        · replace h := g_t c_13 h
          refine lv_iconst (v := 0) J.1 J.2.1 d_MD_value_81 (by decide) ?_
          refine jp J hJ hP hD hS 0 rfl rfl i_MD t_MD t_MD_ok n_MD 34 (by decide) gf_MD_177 rfl rfl rfl (Nat.le_of_ble_eq_true rfl) d_MD_value_82 (WS' := [(n0, .inr (6, [.ref n_tape, .int ztaped, .ref n_isThere, .ref n_size, .ref n_depth, .ref n_memory, .ref n_register, .ref n_mode, .ref n_pc, .ref n_base, .ref n_bound, .ref n_timer, .ref n_ranOut, .ref n_halted, .ref n_steps, .ref n_outs, .ref n_output, .ref n_waits, .ref n_typed, .ref n_disk, .ref n_wants, .int zat_5, .int zend, .int zline, .ref n_labelFrom, .ref n_labelSize, .ref n_labelAddress, .int zlabels, .int zfault, .int zfaultLine, .int zisTold, .int zaddress, .ref n_made, .int zmissing, .int 0, .int 0, .int zat_5, .int r_12, .int zme])), (n_tape, .inl (E.2.1 2, 3000, .inl ztape))]) rfl ?_
          clear hP hD hS
          intro H locs hP hD hS
          exact kb_MD_value_85 J hJ hA hZ _ _ _ _ _ _ _ _ _ _ _ _ _ _ _ _ _ _ _ h hP hD hS (lv_sub hl [0] rfl)
        · replace h := g_f c_13 h
          refine lv_iconst (v := 1) J.1 J.2.1 d_MD_value_77 (by decide) ?_
          refine lv_goto (tgt := 82) J.1 J.2.1 d_MD_value_78 (by decide) ?_
          refine jp J hJ hP hD hS 0 rfl rfl i_MD t_MD t_MD_ok n_MD 34 (by decide) gf_MD_177 rfl rfl rfl (Nat.le_of_ble_eq_true rfl) d_MD_value_82 (WS' := [(n0, .inr (6, [.ref n_tape, .int ztaped, .ref n_isThere, .ref n_size, .ref n_depth, .ref n_memory, .ref n_register, .ref n_mode, .ref n_pc, .ref n_base, .ref n_bound, .ref n_timer, .ref n_ranOut, .ref n_halted, .ref n_steps, .ref n_outs, .ref n_output, .ref n_waits, .ref n_typed, .ref n_disk, .ref n_wants, .int zat_5, .int zend, .int zline, .ref n_labelFrom, .ref n_labelSize, .ref n_labelAddress, .int zlabels, .int zfault, .int zfaultLine, .int zisTold, .int zaddress, .ref n_made, .int zmissing, .int 1, .int 0, .int zat_5, .int r_12, .int zme])), (n_tape, .inl (E.2.1 2, 3000, .inl ztape))]) rfl ?_
          clear hP hD hS
          intro H locs hP hD hS
          exact kb_MD_value_85 J hJ hA hZ _ _ _ _ _ _ _ _ _ _ _ _ _ _ _ _ _ _ _ h hP hD hS (lv_sub hl [0] rfl)
      · replace h := g_f c_11 h
        refine lv_aload_n J.1 J.2.1 d_MD_value_40 rfl (lv_at hl 0 rfl) ?_
        refine lv_aload_n J.1 J.2.1 d_MD_value_41 rfl (lv_at hl 0 rfl) ?_
        replace h := g_bd h
        obtain ⟨⟨r_14, zat_14, zgood_14⟩, q_14, h⟩ := h
        try dsimp only at h
        have hq := ct_MD_number l E n0 n_base n_bound n_depth n_disk n_halted n_isThere n_labelAddress n_labelFrom n_labelSize n_made n_memory n_mode n_output n_outs n_pc n_ranOut n_register n_size n_steps n_tape n_timer n_typed n_waits n_wants H.size ztaped zat_5 zend zline zlabels zfault zfaultLine zisTold zaddress zmissing zgood_5 0 zvalueFrom 0 zme ztape r_14 zat_14 zgood_14 q_14
        have hr := jrunV (p := p) (e := e) (below := below) (R := ({ frames := 2, cells := 0, slots := 0, locals := 43 })) (cells := 0) (slots := 0) (As := []) (rest := [.ref n0]) J hJ hA hZ hP hD hS hq [0, 1] rfl (by decide) gl_MD_194 gi_MD_number gsel_MD_number gini_MD gc_MD_number hd_MD_number ⟨rfl, rfl, Nat.le_of_ble_eq_true rfl, Nat.le_of_ble_eq_true rfl⟩ rfl rfl hl.1 rfl rfl (Nat.le_of_ble_eq_true rfl) d_MD_value_42 ⟨Nat.zero_le _, Nat.zero_le _⟩
        clear hq
        refine jk_i hr hA hP hD hS [0, 1] [] (WR := []) rfl rfl (by decide) (by decide) [0, 1] (WF := [(n0, .inr (6, [.ref n_tape, .int ztaped, .ref n_isThere, .ref n_size, .ref n_depth, .ref n_memory, .ref n_register, .ref n_mode, .ref n_pc, .ref n_base, .ref n_bound, .ref n_timer, .ref n_ranOut, .ref n_halted, .ref n_steps, .ref n_outs, .ref n_output, .ref n_waits, .ref n_typed, .ref n_disk, .ref n_wants, .int zat_14, .int zend, .int zline, .ref n_labelFrom, .ref n_labelSize, .ref n_labelAddress, .int zlabels, .int zfault, .int zfaultLine, .int zisTold, .int zaddress, .ref n_made, .int zmissing, .int zgood_14, .int 0, .int zvalueFrom, .int 0, .int zme])), (n_tape, .inl (E.2.1 2, 3000, .inl ztape))]) rfl (by decide) ?_
        clear hP hD hS
        intro H locs hP hD hS
        clear hr
        refine jp J hJ hP hD hS 0 rfl rfl i_MD t_MD t_MD_ok n_MD 35 (by decide) gf_MD_191 rfl rfl rfl (Nat.le_of_ble_eq_true rfl) d_MD_value_45 (WS' := [(n0, .inr (6, [.ref n_tape, .int ztaped, .ref n_isThere, .ref n_size, .ref n_depth, .ref n_memory, .ref n_register, .ref n_mode, .ref n_pc, .ref n_base, .ref n_bound, .ref n_timer, .ref n_ranOut, .ref n_halted, .ref n_steps, .ref n_outs, .ref n_output, .ref n_waits, .ref n_typed, .ref n_disk, .ref n_wants, .int zat_14, .int zend, .int zline, .ref n_labelFrom, .ref n_labelSize, .ref n_labelAddress, .int zlabels, .int zfault, .int zfaultLine, .int zisTold, .int zaddress, .ref n_made, .int zmissing, .int zgood_14, .int r_14, .int zvalueFrom, .int 0, .int zme])), (n_tape, .inl (E.2.1 2, 3000, .inl ztape))]) rfl ?_
        clear hP hD hS
        intro H locs hP hD hS
        have h := Option.some.inj h
        have e_0 := (Prod.mk.inj h).1
        have h := (Prod.mk.inj h).2
        have e_1 := (Prod.mk.inj h).1
        have h := (Prod.mk.inj h).2
        have e_2 := (Prod.mk.inj h).1
        have h := (Prod.mk.inj h).2
        have e_3 := (Prod.mk.inj h).1
        have h := (Prod.mk.inj h).2
        rw [← e_0, ← e_1, ← e_2, ← e_3, ← h]
        exact jr_v J hS hP hD d_MD_value_48
  · replace h := g_t c_6 h
    have h := Option.some.inj h
    have e_0 := (Prod.mk.inj h).1
    have h := (Prod.mk.inj h).2
    have e_1 := (Prod.mk.inj h).1
    have h := (Prod.mk.inj h).2
    have e_2 := (Prod.mk.inj h).1
    have h := (Prod.mk.inj h).2
    have e_3 := (Prod.mk.inj h).1
    have h := (Prod.mk.inj h).2
    rw [← e_0, ← e_1, ← e_2, ← e_3, ← h]
    exact jr_v J hS hP hD d_MD_value_21

theorem hd_MD_valued : y_MD_valued.cls ≠ "java/lang/invoke/MethodHandle" ∧ y_MD_valued.cls ≠ "java/lang/invoke/VarHandle" ∧ (parseMethodDescriptor y_MD_valued.desc).map (fun d => d.parameters.length) = some 0 := by decide +kernel
def f_MD_valued (zline : Int32) (zlabels : Int32) (zmissing : Int32) (zvalue : Int32) (zvalueFrom : Int32) (zvalueSize : Int32) (ztape : Nat → Int32) (zlabelFrom : Nat → Int32) (zlabelSize : Nat → Int32) (zlabelAddress : Nat → Int32) : Option (Int32 × Int32) := (if zvalueSize = (0 : Int32) then (some (zvalue, zmissing)) else ((f_MD_find zlabels ztape zlabelFrom zlabelSize zvalueFrom zvalueSize).bind fun r_2 => (if (0 : Int32) ≤ r_2 then (if ck r_2 100 then (some ((((zlabelAddress r_2.toNatClampNeg) + zvalue) - ((zlabelAddress r_2.toNatClampNeg) + zvalue) / 65536 * 65536), zmissing)) else none) else (if zmissing = (0 : Int32) then (some (0, zline)) else (some (0, zmissing))))))
set_option maxHeartbeats 4000000 in
set_option maxRecDepth 100000 in
theorem ct_MD_valued (l : Launch) (E : jz_E) (n0 n_base n_bound n_depth n_disk n_halted n_isThere n_labelAddress n_labelFrom n_labelSize n_made n_memory n_mode n_output n_outs n_pc n_ranOut n_register n_size n_steps n_tape n_timer n_typed n_waits n_wants : Nat) (sz : Nat) (ztaped : Int32) (zat : Int32) (zend : Int32) (zline : Int32) (zlabels : Int32) (zfault : Int32) (zfaultLine : Int32) (zisTold : Int32) (zaddress : Int32) (zmissing : Int32) (zgood : Int32) (zvalue : Int32) (zvalueFrom : Int32) (zvalueSize : Int32) (zme : Int32) (ztape : Nat → Int32) (zlabelFrom : Nat → Int32) (zlabelSize : Nat → Int32) (zlabelAddress : Nat → Int32) (o_r : Int32) (o_zmissing : Int32)  (h : f_MD_valued zline zlabels zmissing zvalue zvalueFrom zvalueSize ztape zlabelFrom zlabelSize zlabelAddress = some (o_r, o_zmissing)) : CTi l E y_MD_valued c_MD_valued 2 (some .int) ({ frames := 1, cells := 0, slots := 0, locals := 25 }) [.ref n0] [(n0, .inr (6, [.ref n_tape, .int ztaped, .ref n_isThere, .ref n_size, .ref n_depth, .ref n_memory, .ref n_register, .ref n_mode, .ref n_pc, .ref n_base, .ref n_bound, .ref n_timer, .ref n_ranOut, .ref n_halted, .ref n_steps, .ref n_outs, .ref n_output, .ref n_waits, .ref n_typed, .ref n_disk, .ref n_wants, .int zat, .int zend, .int zline, .ref n_labelFrom, .ref n_labelSize, .ref n_labelAddress, .int zlabels, .int zfault, .int zfaultLine, .int zisTold, .int zaddress, .ref n_made, .int zmissing, .int zgood, .int zvalue, .int zvalueFrom, .int zvalueSize, .int zme])), (n_tape, .inl (E.2.1 2, 3000, .inl ztape)), (n_labelFrom, .inl (E.2.1 0, 100, .inl zlabelFrom)), (n_labelSize, .inl (E.2.1 0, 100, .inl zlabelSize)), (n_labelAddress, .inl (E.2.1 0, 100, .inl zlabelAddress))] sz o_r [(n0, .inr (6, [.ref n_tape, .int ztaped, .ref n_isThere, .ref n_size, .ref n_depth, .ref n_memory, .ref n_register, .ref n_mode, .ref n_pc, .ref n_base, .ref n_bound, .ref n_timer, .ref n_ranOut, .ref n_halted, .ref n_steps, .ref n_outs, .ref n_output, .ref n_waits, .ref n_typed, .ref n_disk, .ref n_wants, .int zat, .int zend, .int zline, .ref n_labelFrom, .ref n_labelSize, .ref n_labelAddress, .int zlabels, .int zfault, .int zfaultLine, .int zisTold, .int zaddress, .ref n_made, .int o_zmissing, .int zgood, .int zvalue, .int zvalueFrom, .int zvalueSize, .int zme])), (n_tape, .inl (E.2.1 2, 3000, .inl ztape)), (n_labelFrom, .inl (E.2.1 0, 100, .inl zlabelFrom)), (n_labelSize, .inl (E.2.1 0, 100, .inl zlabelSize)), (n_labelAddress, .inl (E.2.1 0, 100, .inl zlabelAddress))] := by
  refine jw (by decide +kernel) (Nat.le_of_ble_eq_true rfl) ?_
  intro p e s m below meth c A ls J hJ hAe hsz hA hZ hP hD hl
  rw [← hAe]
  have hS : va_S A s.heap s.heap [] := va_S.rf
  have hl : lv_has ls 2 [(0, .ref n0)] := hl
  unfold f_MD_valued at h
  refine lv_aload_n J.1 J.2.1 d_MD_valued_0 rfl (lv_at hl 0 rfl) ?_
  refine jg J hJ hP 0 rfl rfl i_MD 37 (by decide) gf_MD_188 rfl d_MD_valued_1 ?_
  refine lv_if_ne (tgt := 12) J.1 J.2.1 d_MD_valued_4 (by decide) (fun c_1 => ?_) (fun c_1 => ?_)
  · replace h := g_f c_1 h
    refine lv_aload_n J.1 J.2.1 d_MD_valued_12 rfl (lv_at hl 0 rfl) ?_
    refine lv_aload_n J.1 J.2.1 d_MD_valued_13 rfl (lv_at hl 0 rfl) ?_
    refine jg J hJ hP 0 rfl rfl i_MD 36 (by decide) gf_MD_198 rfl d_MD_valued_14 ?_
    refine lv_aload_n J.1 J.2.1 d_MD_valued_17 rfl (lv_at hl 0 rfl) ?_
    refine jg J hJ hP 0 rfl rfl i_MD 37 (by decide) gf_MD_188 rfl d_MD_valued_18 ?_
    replace h := g_bd h
    obtain ⟨r_2, q_2, h⟩ := h
    have hq := ct_MD_find l E n0 n_base n_bound n_depth n_disk n_halted n_isThere n_labelAddress n_labelFrom n_labelSize n_made n_memory n_mode n_output n_outs n_pc n_ranOut n_register n_size n_steps n_tape n_timer n_typed n_waits n_wants s.heap.size ztaped zat zend zline zlabels zfault zfaultLine zisTold zaddress zmissing zgood zvalue zvalueFrom zvalueSize zme ztape zlabelFrom zlabelSize zvalueFrom zvalueSize r_2 q_2
    have hr := jrunV (p := p) (e := e) (below := below) (R := ({ frames := 1, cells := 0, slots := 0, locals := 25 })) (cells := 0) (slots := 0) (As := [.int zvalueFrom, .int zvalueSize]) (rest := []) J hJ hA hZ hP hD hS hq [0, 1, 2, 3] rfl (by decide) gl_MD_204 gi_MD_find gsel_MD_find gini_MD gc_MD_find hd_MD_find ⟨rfl, rfl, Nat.le_of_ble_eq_true rfl, Nat.le_of_ble_eq_true rfl⟩ rfl rfl hl.1 rfl rfl (Nat.le_of_ble_eq_true rfl) d_MD_valued_21 ⟨Nat.zero_le _, Nat.zero_le _⟩
    clear hq
    refine jk_i hr hA hP hD hS [0, 1, 2, 3] [4] (WR := [(n_labelAddress, .inl (E.2.1 0, 100, .inl zlabelAddress))]) rfl rfl (by decide) (by decide) [1, 2, 3, 4, 0] (WF := [(n0, .inr (6, [.ref n_tape, .int ztaped, .ref n_isThere, .ref n_size, .ref n_depth, .ref n_memory, .ref n_register, .ref n_mode, .ref n_pc, .ref n_base, .ref n_bound, .ref n_timer, .ref n_ranOut, .ref n_halted, .ref n_steps, .ref n_outs, .ref n_output, .ref n_waits, .ref n_typed, .ref n_disk, .ref n_wants, .int zat, .int zend, .int zline, .ref n_labelFrom, .ref n_labelSize, .ref n_labelAddress, .int zlabels, .int zfault, .int zfaultLine, .int zisTold, .int zaddress, .ref n_made, .int zmissing, .int zgood, .int zvalue, .int zvalueFrom, .int zvalueSize, .int zme])), (n_tape, .inl (E.2.1 2, 3000, .inl ztape)), (n_labelFrom, .inl (E.2.1 0, 100, .inl zlabelFrom)), (n_labelSize, .inl (E.2.1 0, 100, .inl zlabelSize)), (n_labelAddress, .inl (E.2.1 0, 100, .inl zlabelAddress))]) rfl (by decide) ?_
    clear hP hD hS
    intro H locs hP hD hS
    clear hr
    refine lv_istore_n (lv' := [(1, .int r_2), (0, .ref n0)]) J.1 J.2.1 d_MD_valued_24 rfl hl (by decide) rfl ?_
    clear hl
    intro ls hl
    refine lv_iload_n J.1 J.2.1 d_MD_valued_25 rfl (lv_at hl 0 rfl) ?_
    refine lv_if_ge (tgt := 53) J.1 J.2.1 d_MD_valued_26 (by decide) (fun c_3 => ?_) (fun c_3 => ?_)
    · replace h := g_t c_3 h
      refine lv_aload_n J.1 J.2.1 d_MD_valued_53 rfl (lv_at hl 1 rfl) ?_
      refine jg J hJ hP 0 rfl rfl i_MD 26 (by decide) gf_MD_86 rfl d_MD_valued_54 ?_
      refine lv_iload_n J.1 J.2.1 d_MD_valued_57 rfl (lv_at hl 0 rfl) ?_
      replace h := g_ck h
      obtain ⟨k_4, h⟩ := h
      refine jai J hJ hP 4 rfl k_4 d_MD_valued_58 ?_
      refine lv_aload_n J.1 J.2.1 d_MD_valued_59 rfl (lv_at hl 1 rfl) ?_
      refine jg J hJ hP 0 rfl rfl i_MD 35 (by decide) gf_MD_191 rfl d_MD_valued_60 ?_
      refine lv_iadd J.1 J.2.1 d_MD_valued_63 ?_
      refine lv_ldc (v := 65536) J.1 J.2.1 J.2.2.2.2.1 (J.2.2.2.2.2.1 _ gk_MD_187) d_MD_valued_64 ?_
      refine lv_irem J.1 J.2.1 d_MD_valued_66 (by decide) ?_
      have h := Option.some.inj h
      have e_0 := (Prod.mk.inj h).1
      have h := (Prod.mk.inj h).2
      rw [← e_0, ← h]
      exact jr_i J hS hP hD rfl d_MD_valued_67
    · replace h := g_f c_3 h
      refine lv_aload_n J.1 J.2.1 d_MD_valued_29 rfl (lv_at hl 1 rfl) ?_
      refine lv_aload_n J.1 J.2.1 d_MD_valued_30 rfl (lv_at hl 1 rfl) ?_
      refine jg J hJ hP 0 rfl rfl i_MD 33 (by decide) gf_MD_208 rfl d_MD_valued_31 ?_
      refine lv_if_ne (tgt := 44) J.1 J.2.1 d_MD_valued_34 (by decide) (fun c_5 => ?_) (fun c_5 => ?_)
      · replace h := g_f c_5 h
        refine lv_aload_n J.1 J.2.1 d_MD_valued_44 rfl (lv_at hl 1 rfl) ?_
        refine jg J hJ hP 0 rfl rfl i_MD 33 (by decide) gf_MD_208 rfl d_MD_valued_45 ?_
        refine jp J hJ hP hD hS 0 rfl rfl i_MD t_MD t_MD_ok n_MD 33 (by decide) gf_MD_208 rfl rfl rfl (Nat.le_of_ble_eq_true rfl) d_MD_valued_48 (WS' := [(n0, .inr (6, [.ref n_tape, .int ztaped, .ref n_isThere, .ref n_size, .ref n_depth, .ref n_memory, .ref n_register, .ref n_mode, .ref n_pc, .ref n_base, .ref n_bound, .ref n_timer, .ref n_ranOut, .ref n_halted, .ref n_steps, .ref n_outs, .ref n_output, .ref n_waits, .ref n_typed, .ref n_disk, .ref n_wants, .int zat, .int zend, .int zline, .ref n_labelFrom, .ref n_labelSize, .ref n_labelAddress, .int zlabels, .int zfault, .int zfaultLine, .int zisTold, .int zaddress, .ref n_made, .int zmissing, .int zgood, .int zvalue, .int zvalueFrom, .int zvalueSize, .int zme])), (n_tape, .inl (E.2.1 2, 3000, .inl ztape)), (n_labelFrom, .inl (E.2.1 0, 100, .inl zlabelFrom)), (n_labelSize, .inl (E.2.1 0, 100, .inl zlabelSize)), (n_labelAddress, .inl (E.2.1 0, 100, .inl zlabelAddress))]) rfl ?_
        clear hP hD hS
        intro H locs hP hD hS
        refine lv_iconst (v := 0) J.1 J.2.1 d_MD_valued_51 (by decide) ?_
        have h := Option.some.inj h
        have e_0 := (Prod.mk.inj h).1
        have h := (Prod.mk.inj h).2
        rw [← e_0, ← h]
        exact jr_i J hS hP hD rfl d_MD_valued_52
      · replace h := g_t c_5 h
        refine lv_aload_n J.1 J.2.1 d_MD_valued_37 rfl (lv_at hl 1 rfl) ?_
        refine jg J hJ hP 0 rfl rfl i_MD 23 (by decide) gf_MD_211 rfl d_MD_valued_38 ?_
        refine lv_goto (tgt := 48) J.1 J.2.1 d_MD_valued_41 (by decide) ?_
        refine jp J hJ hP hD hS 0 rfl rfl i_MD t_MD t_MD_ok n_MD 33 (by decide) gf_MD_208 rfl rfl rfl (Nat.le_of_ble_eq_true rfl) d_MD_valued_48 (WS' := [(n0, .inr (6, [.ref n_tape, .int ztaped, .ref n_isThere, .ref n_size, .ref n_depth, .ref n_memory, .ref n_register, .ref n_mode, .ref n_pc, .ref n_base, .ref n_bound, .ref n_timer, .ref n_ranOut, .ref n_halted, .ref n_steps, .ref n_outs, .ref n_output, .ref n_waits, .ref n_typed, .ref n_disk, .ref n_wants, .int zat, .int zend, .int zline, .ref n_labelFrom, .ref n_labelSize, .ref n_labelAddress, .int zlabels, .int zfault, .int zfaultLine, .int zisTold, .int zaddress, .ref n_made, .int zline, .int zgood, .int zvalue, .int zvalueFrom, .int zvalueSize, .int zme])), (n_tape, .inl (E.2.1 2, 3000, .inl ztape)), (n_labelFrom, .inl (E.2.1 0, 100, .inl zlabelFrom)), (n_labelSize, .inl (E.2.1 0, 100, .inl zlabelSize)), (n_labelAddress, .inl (E.2.1 0, 100, .inl zlabelAddress))]) rfl ?_
        clear hP hD hS
        intro H locs hP hD hS
        refine lv_iconst (v := 0) J.1 J.2.1 d_MD_valued_51 (by decide) ?_
        have h := Option.some.inj h
        have e_0 := (Prod.mk.inj h).1
        have h := (Prod.mk.inj h).2
        rw [← e_0, ← h]
        exact jr_i J hS hP hD rfl d_MD_valued_52
  · replace h := g_t c_1 h
    refine lv_aload_n J.1 J.2.1 d_MD_valued_7 rfl (lv_at hl 0 rfl) ?_
    refine jg J hJ hP 0 rfl rfl i_MD 35 (by decide) gf_MD_191 rfl d_MD_valued_8 ?_
    have h := Option.some.inj h
    have e_0 := (Prod.mk.inj h).1
    have h := (Prod.mk.inj h).2
    rw [← e_0, ← h]
    exact jr_i J hS hP hD rfl d_MD_valued_11

theorem hd_MD_put : y_MD_put.cls ≠ "java/lang/invoke/MethodHandle" ∧ y_MD_put.cls ≠ "java/lang/invoke/VarHandle" ∧ (parseMethodDescriptor y_MD_put.desc).map (fun d => d.parameters.length) = some 2 := by decide +kernel
def f_MD_put (zaddress : Int32) (zmade : Nat → Int32) (p1 : Int32) (p2 : Int32) : Option (Int32 × (Nat → Int32)) := (if p2 = (0 : Int32) then (some ((zaddress + 1), zmade)) else (if ck zaddress 1024 then (some ((zaddress + 1), (upd zmade zaddress.toNatClampNeg p1))) else none))
set_option maxHeartbeats 4000000 in
set_option maxRecDepth 100000 in
theorem ct_MD_put (l : Launch) (E : jz_E) (n0 n_base n_bound n_depth n_disk n_halted n_isThere n_labelAddress n_labelFrom n_labelSize n_made n_memory n_mode n_output n_outs n_pc n_ranOut n_register n_size n_steps n_tape n_timer n_typed n_waits n_wants : Nat) (sz : Nat) (ztaped : Int32) (zat : Int32) (zend : Int32) (zline : Int32) (zlabels : Int32) (zfault : Int32) (zfaultLine : Int32) (zisTold : Int32) (zaddress : Int32) (zmissing : Int32) (zgood : Int32) (zvalue : Int32) (zvalueFrom : Int32) (zvalueSize : Int32) (zme : Int32) (zmade : Nat → Int32) (p1 : Int32) (p2 : Int32) (o_zaddress : Int32) (o_zmade : Nat → Int32)  (h : f_MD_put zaddress zmade p1 p2 = some (o_zaddress, o_zmade)) : CTv l E y_MD_put c_MD_put 3 none ({ frames := 0, cells := 0, slots := 0, locals := 0 }) [.ref n0, .int p1, .int p2] [(n0, .inr (6, [.ref n_tape, .int ztaped, .ref n_isThere, .ref n_size, .ref n_depth, .ref n_memory, .ref n_register, .ref n_mode, .ref n_pc, .ref n_base, .ref n_bound, .ref n_timer, .ref n_ranOut, .ref n_halted, .ref n_steps, .ref n_outs, .ref n_output, .ref n_waits, .ref n_typed, .ref n_disk, .ref n_wants, .int zat, .int zend, .int zline, .ref n_labelFrom, .ref n_labelSize, .ref n_labelAddress, .int zlabels, .int zfault, .int zfaultLine, .int zisTold, .int zaddress, .ref n_made, .int zmissing, .int zgood, .int zvalue, .int zvalueFrom, .int zvalueSize, .int zme])), (n_made, .inl (E.2.1 0, 1024, .inl zmade))] sz [(n0, .inr (6, [.ref n_tape, .int ztaped, .ref n_isThere, .ref n_size, .ref n_depth, .ref n_memory, .ref n_register, .ref n_mode, .ref n_pc, .ref n_base, .ref n_bound, .ref n_timer, .ref n_ranOut, .ref n_halted, .ref n_steps, .ref n_outs, .ref n_output, .ref n_waits, .ref n_typed, .ref n_disk, .ref n_wants, .int zat, .int zend, .int zline, .ref n_labelFrom, .ref n_labelSize, .ref n_labelAddress, .int zlabels, .int zfault, .int zfaultLine, .int zisTold, .int o_zaddress, .ref n_made, .int zmissing, .int zgood, .int zvalue, .int zvalueFrom, .int zvalueSize, .int zme])), (n_made, .inl (E.2.1 0, 1024, .inl o_zmade))] := by
  refine jw (by decide +kernel) (Nat.le_of_ble_eq_true rfl) ?_
  intro p e s m below meth c A ls J hJ hAe hsz hA hZ hP hD hl
  rw [← hAe]
  have hS : va_S A s.heap s.heap [] := va_S.rf
  have hl : lv_has ls 3 [(0, .ref n0), (1, .int p1), (2, .int p2)] := hl
  unfold f_MD_put at h
  refine lv_iload_n J.1 J.2.1 d_MD_put_0 rfl (lv_at hl 2 rfl) ?_
  refine lv_if_eq (tgt := 14) J.1 J.2.1 d_MD_put_1 (by decide) (fun c_1 => ?_) (fun c_1 => ?_)
  · replace h := g_t c_1 h
    refine lv_aload_n J.1 J.2.1 d_MD_put_14 rfl (lv_at hl 0 rfl) ?_
    refine lv_dup J.1 J.2.1 d_MD_put_15 rfl ?_
    refine jg J hJ hP 0 rfl rfl i_MD 31 (by decide) gf_MD_214 rfl d_MD_put_16 ?_
    refine lv_iconst (v := 1) J.1 J.2.1 d_MD_put_19 (by decide) ?_
    refine lv_iadd J.1 J.2.1 d_MD_put_20 ?_
    refine jp J hJ hP hD hS 0 rfl rfl i_MD t_MD t_MD_ok n_MD 31 (by decide) gf_MD_214 rfl rfl rfl (Nat.le_of_ble_eq_true rfl) d_MD_put_21 (WS' := [(n0, .inr (6, [.ref n_tape, .int ztaped, .ref n_isThere, .ref n_size, .ref n_depth, .ref n_memory, .ref n_register, .ref n_mode, .ref n_pc, .ref n_base, .ref n_bound, .ref n_timer, .ref n_ranOut, .ref n_halted, .ref n_steps, .ref n_outs, .ref n_output, .ref n_waits, .ref n_typed, .ref n_disk, .ref n_wants, .int zat, .int zend, .int zline, .ref n_labelFrom, .ref n_labelSize, .ref n_labelAddress, .int zlabels, .int zfault, .int zfaultLine, .int zisTold, .int (zaddress + 1), .ref n_made, .int zmissing, .int zgood, .int zvalue, .int zvalueFrom, .int zvalueSize, .int zme])), (n_made, .inl (E.2.1 0, 1024, .inl zmade))]) rfl ?_
    clear hP hD hS
    intro H locs hP hD hS
    have h := Option.some.inj h
    have e_0 := (Prod.mk.inj h).1
    have h := (Prod.mk.inj h).2
    rw [← e_0, ← h]
    exact jr_v J hS hP hD d_MD_put_24
  · replace h := g_f c_1 h
    refine lv_aload_n J.1 J.2.1 d_MD_put_4 rfl (lv_at hl 0 rfl) ?_
    refine jg J hJ hP 0 rfl rfl i_MD 32 (by decide) gf_MD_89 rfl d_MD_put_5 ?_
    refine lv_aload_n J.1 J.2.1 d_MD_put_8 rfl (lv_at hl 0 rfl) ?_
    refine jg J hJ hP 0 rfl rfl i_MD 31 (by decide) gf_MD_214 rfl d_MD_put_9 ?_
    refine lv_iload_n J.1 J.2.1 d_MD_put_12 rfl (lv_at hl 1 rfl) ?_
    replace h := g_ck h
    obtain ⟨k_2, h⟩ := h
    refine jsi J hJ hP hD hS 1 rfl k_2 d_MD_put_13 (WS' := [(n0, .inr (6, [.ref n_tape, .int ztaped, .ref n_isThere, .ref n_size, .ref n_depth, .ref n_memory, .ref n_register, .ref n_mode, .ref n_pc, .ref n_base, .ref n_bound, .ref n_timer, .ref n_ranOut, .ref n_halted, .ref n_steps, .ref n_outs, .ref n_output, .ref n_waits, .ref n_typed, .ref n_disk, .ref n_wants, .int zat, .int zend, .int zline, .ref n_labelFrom, .ref n_labelSize, .ref n_labelAddress, .int zlabels, .int zfault, .int zfaultLine, .int zisTold, .int zaddress, .ref n_made, .int zmissing, .int zgood, .int zvalue, .int zvalueFrom, .int zvalueSize, .int zme])), (n_made, .inl (E.2.1 0, 1024, .inl (upd zmade zaddress.toNatClampNeg p1)))]) rfl ?_
    clear hP hD hS
    intro H locs hP hD hS
    refine lv_aload_n J.1 J.2.1 d_MD_put_14 rfl (lv_at hl 0 rfl) ?_
    refine lv_dup J.1 J.2.1 d_MD_put_15 rfl ?_
    refine jg J hJ hP 0 rfl rfl i_MD 31 (by decide) gf_MD_214 rfl d_MD_put_16 ?_
    refine lv_iconst (v := 1) J.1 J.2.1 d_MD_put_19 (by decide) ?_
    refine lv_iadd J.1 J.2.1 d_MD_put_20 ?_
    refine jp J hJ hP hD hS 0 rfl rfl i_MD t_MD t_MD_ok n_MD 31 (by decide) gf_MD_214 rfl rfl rfl (Nat.le_of_ble_eq_true rfl) d_MD_put_21 (WS' := [(n0, .inr (6, [.ref n_tape, .int ztaped, .ref n_isThere, .ref n_size, .ref n_depth, .ref n_memory, .ref n_register, .ref n_mode, .ref n_pc, .ref n_base, .ref n_bound, .ref n_timer, .ref n_ranOut, .ref n_halted, .ref n_steps, .ref n_outs, .ref n_output, .ref n_waits, .ref n_typed, .ref n_disk, .ref n_wants, .int zat, .int zend, .int zline, .ref n_labelFrom, .ref n_labelSize, .ref n_labelAddress, .int zlabels, .int zfault, .int zfaultLine, .int zisTold, .int (zaddress + 1), .ref n_made, .int zmissing, .int zgood, .int zvalue, .int zvalueFrom, .int zvalueSize, .int zme])), (n_made, .inl (E.2.1 0, 1024, .inl (upd zmade zaddress.toNatClampNeg p1)))]) rfl ?_
    clear hP hD hS
    intro H locs hP hD hS
    have h := Option.some.inj h
    have e_0 := (Prod.mk.inj h).1
    have h := (Prod.mk.inj h).2
    rw [← e_0, ← h]
    exact jr_v J hS hP hD d_MD_put_24
