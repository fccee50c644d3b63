theorem hd_MD_in : y_MD_in.cls ≠ "java/lang/invoke/MethodHandle" ∧ y_MD_in.cls ≠ "java/lang/invoke/VarHandle" ∧ (parseMethodDescriptor y_MD_in.desc).map (fun d => d.parameters.length) = some 3 := by decide +kernel
def f_MD_in (p0 : Int32) (p1 : Int32) (p2 : Int32) : Option (Int32) := (if p0 < p1 then (some 0) else (if p2 < p0 then (some 0) else (some 1)))
set_option maxHeartbeats 4000000 in
set_option maxRecDepth 100000 in
theorem ct_MD_in (l : Launch) (E : jz_E)  (sz : Nat) (p0 : Int32) (p1 : Int32) (p2 : Int32) (o_r : Int32)  (h : f_MD_in p0 p1 p2 = some o_r) : CTi l E y_MD_in c_MD_in 3 (some .boolean) ({ frames := 0, cells := 0, slots := 0, locals := 0 }) [.int p0, .int p1, .int p2] [] sz o_r [] := by
  refine jw (by decide +kernel) (Nat.le_of_ble_eq_true rfl) ?_
  intro p e s m below meth c A ls J hJ hAe hsz hA hZ hP hD hl
  rw [← hAe]
  have hS : va_S A s.heap s.heap [] := va_S.rf
  have hl : lv_has ls 3 [(0, .int p0), (1, .int p1), (2, .int p2)] := hl
  unfold f_MD_in at h
  refine lv_iload_n J.1 J.2.1 d_MD_in_0 rfl (lv_at hl 0 rfl) ?_
  refine lv_iload_n J.1 J.2.1 d_MD_in_1 rfl (lv_at hl 1 rfl) ?_
  refine lv_icmp_lt (tgt := 14) J.1 J.2.1 d_MD_in_2 (by decide) (fun c_1 => ?_) (fun c_1 => ?_)
  · replace h := g_t c_1 h
    refine lv_iconst (v := 0) J.1 J.2.1 d_MD_in_14 (by decide) ?_
    have h := Option.some.inj h
    rw [← h]
    exact jr_i J hS hP hD rfl d_MD_in_15
  · replace h := g_f c_1 h
    refine lv_iload_n J.1 J.2.1 d_MD_in_5 rfl (lv_at hl 0 rfl) ?_
    refine lv_iload_n J.1 J.2.1 d_MD_in_6 rfl (lv_at hl 2 rfl) ?_
    refine lv_icmp_gt (tgt := 14) J.1 J.2.1 d_MD_in_7 (by decide) (fun c_2 => ?_) (fun c_2 => ?_)
    · replace h := g_t c_2 h
      refine lv_iconst (v := 0) J.1 J.2.1 d_MD_in_14 (by decide) ?_
      have h := Option.some.inj h
      rw [← h]
      exact jr_i J hS hP hD rfl d_MD_in_15
    · replace h := g_f c_2 h
      refine lv_iconst (v := 1) J.1 J.2.1 d_MD_in_10 (by decide) ?_
      refine lv_goto (tgt := 15) J.1 J.2.1 d_MD_in_11 (by decide) ?_
      have h := Option.some.inj h
      rw [← h]
      exact jr_i J hS hP hD rfl d_MD_in_15

theorem hd_MD_word1 : y_MD_word1.cls ≠ "java/lang/invoke/MethodHandle" ∧ y_MD_word1.cls ≠ "java/lang/invoke/VarHandle" ∧ (parseMethodDescriptor y_MD_word1.desc).map (fun d => d.parameters.length) = some 1 := by decide +kernel
def b_MD_word1_3 : Nat → Int32 → (Nat → Int32) → Int32 → Int32 → Option (Int32 × (Nat → Int32))
  | 0, _, _, _, _ => none
  | n + 1, ztaped, ztape, x1, x2 => (if x2 < (0 : Int32) then (some (ztaped, ztape)) else (if ck ztaped 3000 then b_MD_word1_3 n (ztaped + 1) (upd ztape ztaped.toNatClampNeg (vp_nar .byte ((x1 >>> (x2 &&& 31)).toInt8.toInt32))) x1 (x2 + (-8)) else none))
def f_MD_word1 (ztaped : Int32) (ztape : Nat → Int32) (p1 : Int32) : Option (Int32 × (Nat → Int32)) := b_MD_word1_3 65536 ztaped ztape p1 24
set_option maxHeartbeats 4000000 in
set_option maxRecDepth 100000 in
theorem kb_MD_word1_3 {p : Program} {l : Launch} {e : Env} {s : State} {m : MethodId} {below : List Frame} {meth : Method} {c : Code} {A : Nat → Prop} {E : jz_E} {n0 n_base n_bound n_depth n_disk n_halted n_isThere n_labelAddress n_labelFrom n_labelSize n_made n_memory n_mode n_output n_outs n_pc n_ranOut n_register n_size n_steps n_tape n_timer n_typed n_waits n_wants : Nat} {p1 : Int32} {o_ztaped : Int32} {o_ztape : Nat → Int32} (J : JC p s m ([.ref n0, .int p1] : List Value).toArray meth c c_MD_word1 3 none y_MD_word1.cls) (hJ : jE E s) (hA : ∀ q : Nat, s.heap.size ≤ q → A q) (hZ : jz_ok E A s s.heap) : ∀ (n : Nat) (ztaped : Int32) (zat : Int32) (zend : Int32) (zline : Int32) (zlabels : Int32) (zfault : Int32) (zfaultLine : Int32) (zisTold : Int32) (zaddress : Int32) (zmissing : Int32) (zgood : Int32) (zvalue : Int32) (zvalueFrom : Int32) (zvalueSize : Int32) (zme : Int32) (ztape : Nat → Int32) (x1 : Int32) (x2 : Int32) (H : Heap) (locs : List Loc) (ls : Array Slot), b_MD_word1_3 n ztaped ztape x1 x2 = some (o_ztaped, o_ztape) → va_P E.1 classes [(n0, .inr (6, [.ref n_tape, .int ztaped, .ref n_isThere, .ref n_size, .ref n_depth, .ref n_memory, .ref n_register, .ref n_mode, .ref n_pc, .ref n_base, .ref n_bound, .ref n_timer, .ref n_ranOut, .ref n_halted, .ref n_steps, .ref n_outs, .ref n_output, .ref n_waits, .ref n_typed, .ref n_disk, .ref n_wants, .int zat, .int zend, .int zline, .ref n_labelFrom, .ref n_labelSize, .ref n_labelAddress, .int zlabels, .int zfault, .int zfaultLine, .int zisTold, .int zaddress, .ref n_made, .int zmissing, .int zgood, .int zvalue, .int zvalueFrom, .int zvalueSize, .int zme])), (n_tape, .inl (E.2.1 2, 3000, .inl ztape))] H → va_D A [(n0, .inr (6, [.ref n_tape, .int ztaped, .ref n_isThere, .ref n_size, .ref n_depth, .ref n_memory, .ref n_register, .ref n_mode, .ref n_pc, .ref n_base, .ref n_bound, .ref n_timer, .ref n_ranOut, .ref n_halted, .ref n_steps, .ref n_outs, .ref n_output, .ref n_waits, .ref n_typed, .ref n_disk, .ref n_wants, .int zat, .int zend, .int zline, .ref n_labelFrom, .ref n_labelSize, .ref n_labelAddress, .int zlabels, .int zfault, .int zfaultLine, .int zisTold, .int zaddress, .ref n_made, .int zmissing, .int zgood, .int zvalue, .int zvalueFrom, .int zvalueSize, .int zme])), (n_tape, .inl (E.2.1 2, 3000, .inl ztape))] → va_S A s.heap H locs → lv_has ls 3 [(0, .ref n0), (1, .int x1), (2, .int x2)] → W p l e ({ frames := 0, cells := 0, slots := 0, locals := 0 }) s m ([.ref n0, .int p1] : List Value).toArray below meth c H locs 0 0 (MQ below (va_Qv (fun (u : va_W) => u = [(n0, .inr (6, [.ref n_tape, .int o_ztaped, .ref n_isThere, .ref n_size, .ref n_depth, .ref n_memory, .ref n_register, .ref n_mode, .ref n_pc, .ref n_base, .ref n_bound, .ref n_timer, .ref n_ranOut, .ref n_halted, .ref n_steps, .ref n_outs, .ref n_output, .ref n_waits, .ref n_typed, .ref n_disk, .ref n_wants, .int zat, .int zend, .int zline, .ref n_labelFrom, .ref n_labelSize, .ref n_labelAddress, .int zlabels, .int zfault, .int zfaultLine, .int zisTold, .int zaddress, .ref n_made, .int zmissing, .int zgood, .int zvalue, .int zvalueFrom, .int zvalueSize, .int zme])), (n_tape, .inl (E.2.1 2, 3000, .inl o_ztape))]) (BW E A) A) ([.ref n0, .int p1] : List Value).toArray s 0 0 A) (F0 m 3 ls []) := by
  intro n
  induction n with
  | zero => intro ztaped zat zend zline zlabels zfault zfaultLine zisTold zaddress zmissing zgood zvalue zvalueFrom zvalueSize zme ztape x1 x2 H locs ls h; cases h
  | succ n ih =>
    intro ztaped zat zend zline zlabels zfault zfaultLine zisTold zaddress zmissing zgood zvalue zvalueFrom zvalueSize zme ztape x1 x2 H locs ls h hP hD hS hl
    rw [b_MD_word1_3] at h
    refine lv_iload_n J.1 J.2.1 d_MD_word1_3 rfl (lv_at hl 2 rfl) ?_
    refine lv_if_lt (tgt := 36) J.1 J.2.1 d_MD_word1_4 (by decide) (fun c_1 => ?_) (fun c_1 => ?_)
    · replace h := g_t c_1 h
      have h := Option.some.inj h
      have e_0 := (Prod.mk.inj h).1
      have h := (Prod.mk.inj h).2
      rw [← e_0, ← h]
      exact jr_v J hS hP hD d_MD_word1_36
    · replace h := g_f c_1 h
      refine lv_aload_n J.1 J.2.1 d_MD_word1_7 rfl (lv_at hl 0 rfl) ?_
      refine jg J hJ hP 0 rfl rfl i_MD 0 (by decide) gf_MD_11 rfl d_MD_word1_8 ?_
      refine lv_aload_n J.1 J.2.1 d_MD_word1_11 rfl (lv_at hl 0 rfl) ?_
      refine jg J hJ hP 0 rfl rfl i_MD 1 (by decide) gf_MD_1 rfl d_MD_word1_12 ?_
      refine lv_iload_n J.1 J.2.1 d_MD_word1_15 rfl (lv_at hl 1 rfl) ?_
      refine lv_iload_n J.1 J.2.1 d_MD_word1_16 rfl (lv_at hl 2 rfl) ?_
      refine lv_ishr J.1 J.2.1 d_MD_word1_17 ?_
      refine lv_i2b J.1 J.2.1 d_MD_word1_18 rfl ?_
      replace h := g_ck h
      obtain ⟨k_2, h⟩ := h
      refine va_bast J.1 J.2.1 hJ.1 hP hD hS 1 2 rfl rfl k_2 d_MD_word1_19 ?_
      clear hP hD hS
      intro H locs hP hD hS
      have hP : va_P E.1 classes [(n0, .inr (6, [.ref n_tape, .int ztaped, .ref n_isThere, .ref n_size, .ref n_depth, .ref n_memory, .ref n_register, .ref n_mode, .ref n_pc, .ref n_base, .ref n_bound, .ref n_timer, .ref n_ranOut, .ref n_halted, .ref n_steps, .ref n_outs, .ref n_output, .ref n_waits, .ref n_typed, .ref n_disk, .ref n_wants, .int zat, .int zend, .int zline, .ref n_labelFrom, .ref n_labelSize, .ref n_labelAddress, .int zlabels, .int zfault, .int zfaultLine, .int zisTold, .int zaddress, .ref n_made, .int zmissing, .int zgood, .int zvalue, .int zvalueFrom, .int zvalueSize, .int zme])), (n_tape, .inl (E.2.1 2, 3000, .inl (upd ztape ztaped.toNatClampNeg (vp_nar .byte ((x1 >>> (x2 &&& 31)).toInt8.toInt32)))))] H := hP
      have hD : va_D A [(n0, .inr (6, [.ref n_tape, .int ztaped, .ref n_isThere, .ref n_size, .ref n_depth, .ref n_memory, .ref n_register, .ref n_mode, .ref n_pc, .ref n_base, .ref n_bound, .ref n_timer, .ref n_ranOut, .ref n_halted, .ref n_steps, .ref n_outs, .ref n_output, .ref n_waits, .ref n_typed, .ref n_disk, .ref n_wants, .int zat, .int zend, .int zline, .ref n_labelFrom, .ref n_labelSize, .ref n_labelAddress, .int zlabels, .int zfault, .int zfaultLine, .int zisTold, .int zaddress, .ref n_made, .int zmissing, .int zgood, .int zvalue, .int zvalueFrom, .int zvalueSize, .int zme])), (n_tape, .inl (E.2.1 2, 3000, .inl (upd ztape ztaped.toNatClampNeg (vp_nar .byte ((x1 >>> (x2 &&& 31)).toInt8.toInt32)))))] := hD
      refine lv_aload_n J.1 J.2.1 d_MD_word1_20 rfl (lv_at hl 0 rfl) ?_
      refine lv_dup J.1 J.2.1 d_MD_word1_21 rfl ?_
      refine jg J hJ hP 0 rfl rfl i_MD 1 (by decide) gf_MD_1 rfl d_MD_word1_22 ?_
      refine lv_iconst (v := 1) J.1 J.2.1 d_MD_word1_25 (by decide) ?_
      refine lv_iadd J.1 J.2.1 d_MD_word1_26 ?_
      refine jp J hJ hP hD hS 0 rfl rfl i_MD t_MD t_MD_ok n_MD 1 (by decide) gf_MD_1 rfl rfl rfl (Nat.le_of_ble_eq_true rfl) d_MD_word1_27 (WS' := [(n0, .inr (6, [.ref n_tape, .int (ztaped + 1), .ref n_isThere, .ref n_size, .ref n_depth, .ref n_memory, .ref n_register, .ref n_mode, .ref n_pc, .ref n_base, .ref n_bound, .ref n_timer, .ref n_ranOut, .ref n_halted, .ref n_steps, .ref n_outs, .ref n_output, .ref n_waits, .ref n_typed, .ref n_disk, .ref n_wants, .int zat, .int zend, .int zline, .ref n_labelFrom, .ref n_labelSize, .ref n_labelAddress, .int zlabels, .int zfault, .int zfaultLine, .int zisTold, .int zaddress, .ref n_made, .int zmissing, .int zgood, .int zvalue, .int zvalueFrom, .int zvalueSize, .int zme])), (n_tape, .inl (E.2.1 2, 3000, .inl (upd ztape ztaped.toNatClampNeg (vp_nar .byte ((x1 >>> (x2 &&& 31)).toInt8.toInt32)))))]) rfl ?_
      clear hP hD hS
      intro H locs hP hD hS
      refine lv_iinc (v := (x2 + (-8))) (lv' := [(2, .int (x2 + (-8))), (0, .ref n0), (1, .int x1)]) J.1 J.2.1 d_MD_word1_30 hl (k := 2) rfl rfl (by decide) rfl ?_
      clear hl
      intro ls hl
      refine lv_goto (tgt := 3) J.1 J.2.1 d_MD_word1_33 (by decide) ?_
      exact ih _ _ _ _ _ _ _ _ _ _ _ _ _ _ _ _ _ _ _ _ _ h hP hD hS (lv_sub hl [1, 2, 0] rfl)
set_option maxHeartbeats 4000000 in
set_option maxRecDepth 100000 in
theorem ct_MD_word1 (l : Launch) (E : jz_E) (n0 n_base n_bound n_depth n_disk n_halted n_isThere n_labelAddress n_labelFrom n_labelSize n_made n_memory n_mode n_output n_outs n_pc n_ranOut n_register n_size n_steps n_tape n_timer n_typed n_waits n_wants : Nat) (sz : Nat) (ztaped : Int32) (zat : Int32) (zend : Int32) (zline : Int32) (zlabels : Int32) (zfault : Int32) (zfaultLine : Int32) (zisTold : Int32) (zaddress : Int32) (zmissing : Int32) (zgood : Int32) (zvalue : Int32) (zvalueFrom : Int32) (zvalueSize : Int32) (zme : Int32) (ztape : Nat → Int32) (p1 : Int32) (o_ztaped : Int32) (o_ztape : Nat → Int32)  (h : f_MD_word1 ztaped ztape p1 = some (o_ztaped, o_ztape)) : CTv l E y_MD_word1 c_MD_word1 3 none ({ frames := 0, cells := 0, slots := 0, locals := 0 }) [.ref n0, .int p1] [(n0, .inr (6, [.ref n_tape, .int ztaped, .ref n_isThere, .ref n_size, .ref n_depth, .ref n_memory, .ref n_register, .ref n_mode, .ref n_pc, .ref n_base, .ref n_bound, .ref n_timer, .ref n_ranOut, .ref n_halted, .ref n_steps, .ref n_outs, .ref n_output, .ref n_waits, .ref n_typed, .ref n_disk, .ref n_wants, .int zat, .int zend, .int zline, .ref n_labelFrom, .ref n_labelSize, .ref n_labelAddress, .int zlabels, .int zfault, .int zfaultLine, .int zisTold, .int zaddress, .ref n_made, .int zmissing, .int zgood, .int zvalue, .int zvalueFrom, .int zvalueSize, .int zme])), (n_tape, .inl (E.2.1 2, 3000, .inl ztape))] sz [(n0, .inr (6, [.ref n_tape, .int o_ztaped, .ref n_isThere, .ref n_size, .ref n_depth, .ref n_memory, .ref n_register, .ref n_mode, .ref n_pc, .ref n_base, .ref n_bound, .ref n_timer, .ref n_ranOut, .ref n_halted, .ref n_steps, .ref n_outs, .ref n_output, .ref n_waits, .ref n_typed, .ref n_disk, .ref n_wants, .int zat, .int zend, .int zline, .ref n_labelFrom, .ref n_labelSize, .ref n_labelAddress, .int zlabels, .int zfault, .int zfaultLine, .int zisTold, .int zaddress, .ref n_made, .int zmissing, .int zgood, .int zvalue, .int zvalueFrom, .int zvalueSize, .int zme])), (n_tape, .inl (E.2.1 2, 3000, .inl o_ztape))] := by
  refine jw (by decide +kernel) (Nat.le_of_ble_eq_true rfl) ?_
  intro p e s m below meth c A ls J hJ hAe hsz hA hZ hP hD hl
  rw [← hAe]
  have hS : va_S A s.heap s.heap [] := va_S.rf
  have hl : lv_has ls 3 [(0, .ref n0), (1, .int p1)] := hl
  unfold f_MD_word1 at h
  refine lv_bipush (v := 24) J.1 J.2.1 d_MD_word1_0 (by decide) ?_
  refine lv_istore_n (lv' := [(2, .int 24), (0, .ref n0), (1, .int p1)]) J.1 J.2.1 d_MD_word1_2 rfl hl (by decide) rfl ?_
  clear hl
  intro ls hl
  exact kb_MD_word1_3 J hJ hA hZ _ _ _ _ _ _ _ _ _ _ _ _ _ _ _ _ _ _ _ _ _ _ h hP hD hS (lv_sub hl [1, 2, 0] rfl)

theorem hd_MD_feed : y_MD_feed.cls ≠ "java/lang/invoke/MethodHandle" ∧ y_MD_feed.cls ≠ "java/lang/invoke/VarHandle" ∧ (parseMethodDescriptor y_MD_feed.desc).map (fun d => d.parameters.length) = some 5 := by decide +kernel
def f_MD_feed (ztaped : Int32) (ztape : Nat → Int32) (p1 : Int32) (p2 : Int32) (p3 : Int32) (p4 : Int32) (p5 : Int32) : Option (Int32 × Int32 × (Nat → Int32)) := (if (ztaped + 20) ≤ (3000 : Int32) then ((f_MD_word1 ztaped ztape p1).bind fun (ztaped_2, ztape_2) => ((f_MD_word1 ztaped_2 ztape_2 p2).bind fun (ztaped_3, ztape_3) => ((f_MD_word1 ztaped_3 ztape_3 p3).bind fun (ztaped_4, ztape_4) => ((f_MD_word1 ztaped_4 ztape_4 p4).bind fun (ztaped_5, ztape_5) => ((f_MD_word1 ztaped_5 ztape_5 p5).bind fun (ztaped_6, ztape_6) => (some (ztaped_6, ztaped_6, ztape_6))))))) else (some ((-1), ztaped, ztape)))
set_option maxHeartbeats 4000000 in
set_option maxRecDepth 100000 in
theorem ct_MD_feed (l : Launch) (E : jz_E) (n0 n_base n_bound n_depth n_disk n_halted n_isThere n_labelAddress n_labelFrom n_labelSize n_made n_memory n_mode n_output n_outs n_pc n_ranOut n_register n_size n_steps n_tape n_timer n_typed n_waits n_wants : Nat) (sz : Nat) (ztaped : Int32) (zat : Int32) (zend : Int32) (zline : Int32) (zlabels : Int32) (zfault : Int32) (zfaultLine : Int32) (zisTold : Int32) (zaddress : Int32) (zmissing : Int32) (zgood : Int32) (zvalue : Int32) (zvalueFrom : Int32) (zvalueSize : Int32) (zme : Int32) (ztape : Nat → Int32) (p1 : Int32) (p2 : Int32) (p3 : Int32) (p4 : Int32) (p5 : Int32) (o_r : Int32) (o_ztaped : Int32) (o_ztape : Nat → Int32)  (h : f_MD_feed ztaped ztape p1 p2 p3 p4 p5 = some (o_r, o_ztaped, o_ztape)) : CTi l E y_MD_feed c_MD_feed 6 (some .int) ({ frames := 1, cells := 0, slots := 0, locals := 22 }) [.ref n0, .int p1, .int p2, .int p3, .int p4, .int p5] [(n0, .inr (6, [.ref n_tape, .int ztaped, .ref n_isThere, .ref n_size, .ref n_depth, .ref n_memory, .ref n_register, .ref n_mode, .ref n_pc, .ref n_base, .ref n_bound, .ref n_timer, .ref n_ranOut, .ref n_halted, .ref n_steps, .ref n_outs, .ref n_output, .ref n_waits, .ref n_typed, .ref n_disk, .ref n_wants, .int zat, .int zend, .int zline, .ref n_labelFrom, .ref n_labelSize, .ref n_labelAddress, .int zlabels, .int zfault, .int zfaultLine, .int zisTold, .int zaddress, .ref n_made, .int zmissing, .int zgood, .int zvalue, .int zvalueFrom, .int zvalueSize, .int zme])), (n_tape, .inl (E.2.1 2, 3000, .inl ztape))] sz o_r [(n0, .inr (6, [.ref n_tape, .int o_ztaped, .ref n_isThere, .ref n_size, .ref n_depth, .ref n_memory, .ref n_register, .ref n_mode, .ref n_pc, .ref n_base, .ref n_bound, .ref n_timer, .ref n_ranOut, .ref n_halted, .ref n_steps, .ref n_outs, .ref n_output, .ref n_waits, .ref n_typed, .ref n_disk, .ref n_wants, .int zat, .int zend, .int zline, .ref n_labelFrom, .ref n_labelSize, .ref n_labelAddress, .int zlabels, .int zfault, .int zfaultLine, .int zisTold, .int zaddress, .ref n_made, .int zmissing, .int zgood, .int zvalue, .int zvalueFrom, .int zvalueSize, .int zme])), (n_tape, .inl (E.2.1 2, 3000, .inl o_ztape))] := by
  refine jw (by decide +kernel) (Nat.le_of_ble_eq_true rfl) ?_
  intro p e s m below meth c A ls J hJ hAe hsz hA hZ hP hD hl
  rw [← hAe]
  have hS : va_S A s.heap s.heap [] := va_S.rf
  have hl : lv_has ls 6 [(0, .ref n0), (1, .int p1), (2, .int p2), (3, .int p3), (4, .int p4), (5, .int p5)] := hl
  unfold f_MD_feed at h
  refine lv_aload_n J.1 J.2.1 d_MD_feed_0 rfl (lv_at hl 0 rfl) ?_
  refine jg J hJ hP 0 rfl rfl i_MD 1 (by decide) gf_MD_1 rfl d_MD_feed_1 ?_
  refine lv_bipush (v := 20) J.1 J.2.1 d_MD_feed_4 (by decide) ?_
  refine lv_iadd J.1 J.2.1 d_MD_feed_6 ?_
  refine lv_sipush (v := 3000) J.1 J.2.1 d_MD_feed_7 (by decide) ?_
  refine lv_icmp_le (tgt := 15) J.1 J.2.1 d_MD_feed_10 (by decide) (fun c_1 => ?_) (fun c_1 => ?_)
  · replace h := g_t c_1 h
    refine lv_aload_n J.1 J.2.1 d_MD_feed_15 rfl (lv_at hl 0 rfl) ?_
    refine lv_iload_n J.1 J.2.1 d_MD_feed_16 rfl (lv_at hl 1 rfl) ?_
    replace h := g_bd h
    obtain ⟨⟨ztaped_2, ztape_2⟩, q_2, h⟩ := h
    try dsimp only at h
    have hq := ct_MD_word1 l E n0 n_base n_bound n_depth n_disk n_halted n_isThere n_labelAddress n_labelFrom n_labelSize n_made n_memory n_mode n_output n_outs n_pc n_ranOut n_register n_size n_steps n_tape n_timer n_typed n_waits n_wants s.heap.size ztaped zat zend zline zlabels zfault zfaultLine zisTold zaddress zmissing zgood zvalue zvalueFrom zvalueSize zme ztape p1 ztaped_2 ztape_2 q_2
    have hr := jrunV (p := p) (e := e) (below := below) (R := ({ frames := 1, cells := 0, slots := 0, locals := 22 })) (cells := 0) (slots := 0) (As := [.int p1]) (rest := []) J hJ hA hZ hP hD hS hq [0, 1] rfl (by decide) gl_MD_7 gi_MD_word1 gsel_MD_word1 gini_MD gc_MD_word1 hd_MD_word1 ⟨rfl, rfl, Nat.le_of_ble_eq_true rfl, Nat.le_of_ble_eq_true rfl⟩ rfl rfl hl.1 rfl rfl (Nat.le_of_ble_eq_true rfl) d_MD_feed_17 ⟨Nat.zero_le _, Nat.zero_le _⟩
    clear hq
    refine jk_v hr hA hP hD hS [0, 1] [] (WR := []) rfl rfl (by decide) (by decide) [0, 1] (WF := [(n0, .inr (6, [.ref n_tape, .int ztaped_2, .ref n_isThere, .ref n_size, .ref n_depth, .ref n_memory, .ref n_register, .ref n_mode, .ref n_pc, .ref n_base, .ref n_bound, .ref n_timer, .ref n_ranOut, .ref n_halted, .ref n_steps, .ref n_outs, .ref n_output, .ref n_waits, .ref n_typed, .ref n_disk, .ref n_wants, .int zat, .int zend, .int zline, .ref n_labelFrom, .ref n_labelSize, .ref n_labelAddress, .int zlabels, .int zfault, .int zfaultLine, .int zisTold, .int zaddress, .ref n_made, .int zmissing, .int zgood, .int zvalue, .int zvalueFrom, .int zvalueSize, .int zme])), (n_tape, .inl (E.2.1 2, 3000, .inl ztape_2))]) rfl (by decide) ?_
    clear hP hD hS
    intro H locs hP hD hS
    clear hr
    refine lv_aload_n J.1 J.2.1 d_MD_feed_20 rfl (lv_at hl 0 rfl) ?_
    refine lv_iload_n J.1 J.2.1 d_MD_feed_21 rfl (lv_at hl 2 rfl) ?_
    replace h := g_bd h
    obtain ⟨⟨ztaped_3, ztape_3⟩, q_3, h⟩ := h
    try dsimp only at h
    have hq := ct_MD_word1 l E n0 n_base n_bound n_depth n_disk n_halted n_isThere n_labelAddress n_labelFrom n_labelSize n_made n_memory n_mode n_output n_outs n_pc n_ranOut n_register n_size n_steps n_tape n_timer n_typed n_waits n_wants H.size ztaped_2 zat zend zline zlabels zfault zfaultLine zisTold zaddress zmissing zgood zvalue zvalueFrom zvalueSize zme ztape_2 p2 ztaped_3 ztape_3 q_3
    have hr := jrunV (p := p) (e := e) (below := below) (R := ({ frames := 1, cells := 0, slots := 0, locals := 22 })) (cells := 0) (slots := 0) (As := [.int p2]) (rest := []) J hJ hA hZ hP hD hS hq [0, 1] rfl (by decide) gl_MD_7 gi_MD_word1 gsel_MD_word1 gini_MD gc_MD_word1 hd_MD_word1 ⟨rfl, rfl, Nat.le_of_ble_eq_true rfl, Nat.le_of_ble_eq_true rfl⟩ rfl rfl hl.1 rfl rfl (Nat.le_of_ble_eq_true rfl) d_MD_feed_22 ⟨Nat.zero_le _, Nat.zero_le _⟩
    clear hq
    refine jk_v hr hA hP hD hS [0, 1] [] (WR := []) rfl rfl (by decide) (by decide) [0, 1] (WF := [(n0, .inr (6, [.ref n_tape, .int ztaped_3, .ref n_isThere, .ref n_size, .ref n_depth, .ref n_memory, .ref n_register, .ref n_mode, .ref n_pc, .ref n_base, .ref n_bound, .ref n_timer, .ref n_ranOut, .ref n_halted, .ref n_steps, .ref n_outs, .ref n_output, .ref n_waits, .ref n_typed, .ref n_disk, .ref n_wants, .int zat, .int zend, .int zline, .ref n_labelFrom, .ref n_labelSize, .ref n_labelAddress, .int zlabels, .int zfault, .int zfaultLine, .int zisTold, .int zaddress, .ref n_made, .int zmissing, .int zgood, .int zvalue, .int zvalueFrom, .int zvalueSize, .int zme])), (n_tape, .inl (E.2.1 2, 3000, .inl ztape_3))]) rfl (by decide) ?_
    clear hP hD hS
    intro H locs hP hD hS
    clear hr
    refine lv_aload_n J.1 J.2.1 d_MD_feed_25 rfl (lv_at hl 0 rfl) ?_
    refine lv_iload_n J.1 J.2.1 d_MD_feed_26 rfl (lv_at hl 3 rfl) ?_
    replace h := g_bd h
    obtain ⟨⟨ztaped_4, ztape_4⟩, q_4, h⟩ := h
    try dsimp only at h
    have hq := ct_MD_word1 l E n0 n_base n_bound n_depth n_disk n_halted n_isThere n_labelAddress n_labelFrom n_labelSize n_made n_memory n_mode n_output n_outs n_pc n_ranOut n_register n_size n_steps n_tape n_timer n_typed n_waits n_wants H.size ztaped_3 zat zend zline zlabels zfault zfaultLine zisTold zaddress zmissing zgood zvalue zvalueFrom zvalueSize zme ztape_3 p3 ztaped_4 ztape_4 q_4
    have hr := jrunV (p := p) (e := e) (below := below) (R := ({ frames := 1, cells := 0, slots := 0, locals := 22 })) (cells := 0) (slots := 0) (As := [.int p3]) (rest := []) J hJ hA hZ hP hD hS hq [0, 1] rfl (by decide) gl_MD_7 gi_MD_word1 gsel_MD_word1 gini_MD gc_MD_word1 hd_MD_word1 ⟨rfl, rfl, Nat.le_of_ble_eq_true rfl, Nat.le_of_ble_eq_true rfl⟩ rfl rfl hl.1 rfl rfl (Nat.le_of_ble_eq_true rfl) d_MD_feed_27 ⟨Nat.zero_le _, Nat.zero_le _⟩
    clear hq
    refine jk_v hr hA hP hD hS [0, 1] [] (WR := []) rfl rfl (by decide) (by decide) [0, 1] (WF := [(n0, .inr (6, [.ref n_tape, .int ztaped_4, .ref n_isThere, .ref n_size, .ref n_depth, .ref n_memory, .ref n_register, .ref n_mode, .ref n_pc, .ref n_base, .ref n_bound, .ref n_timer, .ref n_ranOut, .ref n_halted, .ref n_steps, .ref n_outs, .ref n_output, .ref n_waits, .ref n_typed, .ref n_disk, .ref n_wants, .int zat, .int zend, .int zline, .ref n_labelFrom, .ref n_labelSize, .ref n_labelAddress, .int zlabels, .int zfault, .int zfaultLine, .int zisTold, .int zaddress, .ref n_made, .int zmissing, .int zgood, .int zvalue, .int zvalueFrom, .int zvalueSize, .int zme])), (n_tape, .inl (E.2.1 2, 3000, .inl ztape_4))]) rfl (by decide) ?_
    clear hP hD hS
    intro H locs hP hD hS
    clear hr
    refine lv_aload_n J.1 J.2.1 d_MD_feed_30 rfl (lv_at hl 0 rfl) ?_
    refine lv_iload J.1 J.2.1 d_MD_feed_31 (lv_at hl 4 rfl) ?_
    replace h := g_bd h
    obtain ⟨⟨ztaped_5, ztape_5⟩, q_5, h⟩ := h
    try dsimp only at h
    have hq := ct_MD_word1 l E n0 n_base n_bound n_depth n_disk n_halted n_isThere n_labelAddress n_labelFrom n_labelSize n_made n_memory n_mode n_output n_outs n_pc n_ranOut n_register n_size n_steps n_tape n_timer n_typed n_waits n_wants H.size ztaped_4 zat zend zline zlabels zfault zfaultLine zisTold zaddress zmissing zgood zvalue zvalueFrom zvalueSize zme ztape_4 p4 ztaped_5 ztape_5 q_5
    have hr := jrunV (p := p) (e := e) (below := below) (R := ({ frames := 1, cells := 0, slots := 0, locals := 22 })) (cells := 0) (slots := 0) (As := [.int p4]) (rest := []) J hJ hA hZ hP hD hS hq [0, 1] rfl (by decide) gl_MD_7 gi_MD_word1 gsel_MD_word1 gini_MD gc_MD_word1 hd_MD_word1 ⟨rfl, rfl, Nat.le_of_ble_eq_true rfl, Nat.le_of_ble_eq_true rfl⟩ rfl rfl hl.1 rfl rfl (Nat.le_of_ble_eq_true rfl) d_MD_feed_33 ⟨Nat.zero_le _, Nat.zero_le _⟩
    clear hq
    refine jk_v hr hA hP hD hS [0, 1] [] (WR := []) rfl rfl (by decide) (by decide) [0, 1] (WF := [(n0, .inr (6, [.ref n_tape, .int ztaped_5, .ref n_isThere, .ref n_size, .ref n_depth, .ref n_memory, .ref n_register, .ref n_mode, .ref n_pc, .ref n_base, .ref n_bound, .ref n_timer, .ref n_ranOut, .ref n_halted, .ref n_steps, .ref n_outs, .ref n_output, .ref n_waits, .ref n_typed, .ref n_disk, .ref n_wants, .int zat, .int zend, .int zline, .ref n_labelFrom, .ref n_labelSize, .ref n_labelAddress, .int zlabels, .int zfault, .int zfaultLine, .int zisTold, .int zaddress, .ref n_made, .int zmissing, .int zgood, .int zvalue, .int zvalueFrom, .int zvalueSize, .int zme])), (n_tape, .inl (E.2.1 2, 3000, .inl ztape_5))]) rfl (by decide) ?_
    clear hP hD hS
    intro H locs hP hD hS
    clear hr
    refine lv_aload_n J.1 J.2.1 d_MD_feed_36 rfl (lv_at hl 0 rfl) ?_
    refine lv_iload J.1 J.2.1 d_MD_feed_37 (lv_at hl 5 rfl) ?_
    replace h := g_bd h
    obtain ⟨⟨ztaped_6, ztape_6⟩, q_6, h⟩ := h
    try dsimp only at h
    have hq := ct_MD_word1 l E n0 n_base n_bound n_depth n_disk n_halted n_isThere n_labelAddress n_labelFrom n_labelSize n_made n_memory n_mode n_output n_outs n_pc n_ranOut n_register n_size n_steps n_tape n_timer n_typed n_waits n_wants H.size ztaped_5 zat zend zline zlabels zfault zfaultLine zisTold zaddress zmissing zgood zvalue zvalueFrom zvalueSize zme ztape_5 p5 ztaped_6 ztape_6 q_6
    have hr := jrunV (p := p) (e := e) (below := below) (R := ({ frames := 1, cells := 0, slots := 0, locals := 22 })) (cells := 0) (slots := 0) (As := [.int p5]) (rest := []) J hJ hA hZ hP hD hS hq [0, 1] rfl (by decide) gl_MD_7 gi_MD_word1 gsel_MD_word1 gini_MD gc_MD_word1 hd_MD_word1 ⟨rfl, rfl, Nat.le_of_ble_eq_true rfl, Nat.le_of_ble_eq_true rfl⟩ rfl rfl hl.1 rfl rfl (Nat.le_of_ble_eq_true rfl) d_MD_feed_39 ⟨Nat.zero_le _, Nat.zero_le _⟩
    clear hq
    refine jk_v hr hA hP hD hS [0, 1] [] (WR := []) rfl rfl (by decide) (by decide) [0, 1] (WF := [(n0, .inr (6, [.ref n_tape, .int ztaped_6, .ref n_isThere, .ref n_size, .ref n_depth, .ref n_memory, .ref n_register, .ref n_mode, .ref n_pc, .ref n_base, .ref n_bound, .ref n_timer, .ref n_ranOut, .ref n_halted, .ref n_steps, .ref n_outs, .ref n_output, .ref n_waits, .ref n_typed, .ref n_disk, .ref n_wants, .int zat, .int zend, .int zline, .ref n_labelFrom, .ref n_labelSize, .ref n_labelAddress, .int zlabels, .int zfault, .int zfaultLine, .int zisTold, .int zaddress, .ref n_made, .int zmissing, .int zgood, .int zvalue, .int zvalueFrom, .int zvalueSize, .int zme])), (n_tape, .inl (E.2.1 2, 3000, .inl ztape_6))]) rfl (by decide) ?_
    clear hP hD hS
    intro H locs hP hD hS
    clear hr
    refine lv_aload_n J.1 J.2.1 d_MD_feed_42 rfl (lv_at hl 0 rfl) ?_
    refine jg J hJ hP 0 rfl rfl i_MD 1 (by decide) gf_MD_1 rfl d_MD_feed_43 ?_
    have h := Option.some.inj h
    have e_0 := (Prod.mk.inj h).1
    have h := (Prod.mk.inj h).2
    have e_1 := (Prod.mk.inj h).1
    have h := (Prod.mk.inj h).2
    rw [← e_0, ← e_1, ← h]
    exact jr_i J hS hP hD rfl d_MD_feed_46
  · replace h := g_f c_1 h
    refine lv_iconst (v := (-1)) J.1 J.2.1 d_MD_feed_13 (by decide) ?_
    have h := Option.some.inj h
    have e_0 := (Prod.mk.inj h).1
    have h := (Prod.mk.inj h).2
    have e_1 := (Prod.mk.inj h).1
    have h := (Prod.mk.inj h).2
    rw [← e_0, ← e_1, ← h]
    exact jr_i J hS hP hD rfl d_MD_feed_14

theorem hd_MD_byteAt : y_MD_byteAt.cls ≠ "java/lang/invoke/MethodHandle" ∧ y_MD_byteAt.cls ≠ "java/lang/invoke/VarHandle" ∧ (parseMethodDescriptor y_MD_byteAt.desc).map (fun d => d.parameters.length) = some 1 := by decide +kernel
def f_MD_byteAt (zend : Int32) (ztape : Nat → Int32) (p1 : Int32) : Option (Int32) := (if zend ≤ p1 then (some (-1)) else (if ck p1 3000 then (some ((ztape p1.toNatClampNeg) &&& 255)) else none))
set_option maxHeartbeats 4000000 in
set_option maxRecDepth 100000 in
theorem ct_MD_byteAt (l : Launch) (E : jz_E) (n0 n_base n_bound n_depth n_disk n_halted n_isThere n_labelAddress n_labelFrom n_labelSize n_made n_memory n_mode n_output n_outs n_pc n_ranOut n_register n_size n_steps n_tape n_timer n_typed n_waits n_wants : Nat) (sz : Nat) (ztaped : Int32) (zat : Int32) (zend : Int32) (zline : Int32) (zlabels : Int32) (zfault : Int32) (zfaultLine : Int32) (zisTold : Int32) (zaddress : Int32) (zmissing : Int32) (zgood : Int32) (zvalue : Int32) (zvalueFrom : Int32) (zvalueSize : Int32) (zme : Int32) (ztape : Nat → Int32) (p1 : Int32) (o_r : Int32)  (h : f_MD_byteAt zend ztape p1 = some o_r) : CTi l E y_MD_byteAt c_MD_byteAt 2 (some .int) ({ frames := 0, cells := 0, slots := 0, locals := 0 }) [.ref n0, .int p1] [(n0, .inr (6, [.ref n_tape, .int ztaped, .ref n_isThere, .ref n_size, .ref n_depth, .ref n_memory, .ref n_register, .ref n_mode, .ref n_pc, .ref n_base, .ref n_bound, .ref n_timer, .ref n_ranOut, .ref n_halted, .ref n_steps, .ref n_outs, .ref n_output, .ref n_waits, .ref n_typed, .ref n_disk, .ref n_wants, .int zat, .int zend, .int zline, .ref n_labelFrom, .ref n_labelSize, .ref n_labelAddress, .int zlabels, .int zfault, .int zfaultLine, .int zisTold, .int zaddress, .ref n_made, .int zmissing, .int zgood, .int zvalue, .int zvalueFrom, .int zvalueSize, .int zme])), (n_tape, .inl (E.2.1 2, 3000, .inl ztape))] sz o_r [(n0, .inr (6, [.ref n_tape, .int ztaped, .ref n_isThere, .ref n_size, .ref n_depth, .ref n_memory, .ref n_register, .ref n_mode, .ref n_pc, .ref n_base, .ref n_bound, .ref n_timer, .ref n_ranOut, .ref n_halted, .ref n_steps, .ref n_outs, .ref n_output, .ref n_waits, .ref n_typed, .ref n_disk, .ref n_wants, .int zat, .int zend, .int zline, .ref n_labelFrom, .ref n_labelSize, .ref n_labelAddress, .int zlabels, .int zfault, .int zfaultLine, .int zisTold, .int zaddress, .ref n_made, .int zmissing, .int zgood, .int zvalue, .int zvalueFrom, .int zvalueSize, .int zme])), (n_tape, .inl (E.2.1 2, 3000, .inl ztape))] := by
  refine jw (by decide +kernel) (Nat.le_of_ble_eq_true rfl) ?_
  intro p e s m below meth c A ls J hJ hAe hsz hA hZ hP hD hl
  rw [← hAe]
  have hS : va_S A s.heap s.heap [] := va_S.rf
  have hl : lv_has ls 2 [(0, .ref n0), (1, .int p1)] := hl
  unfold f_MD_byteAt at h
  refine lv_iload_n J.1 J.2.1 d_MD_byteAt_0 rfl (lv_at hl 1 rfl) ?_
  refine lv_aload_n J.1 J.2.1 d_MD_byteAt_1 rfl (lv_at hl 0 rfl) ?_
  refine jg J hJ hP 0 rfl rfl i_MD 22 (by decide) gf_MD_92 rfl d_MD_byteAt_2 ?_
  refine lv_icmp_ge (tgt := 21) J.1 J.2.1 d_MD_byteAt_5 (by decide) (fun c_1 => ?_) (fun c_1 => ?_)
  · replace h := g_t c_1 h
    refine lv_iconst (v := (-1)) J.1 J.2.1 d_MD_byteAt_21 (by decide) ?_
    have h := Option.some.inj h
    rw [← h]
    exact jr_i J hS hP hD rfl d_MD_byteAt_22
  · replace h := g_f c_1 h
    refine lv_aload_n J.1 J.2.1 d_MD_byteAt_8 rfl (lv_at hl 0 rfl) ?_
    refine jg J hJ hP 0 rfl rfl i_MD 0 (by decide) gf_MD_11 rfl d_MD_byteAt_9 ?_
    refine lv_iload_n J.1 J.2.1 d_MD_byteAt_12 rfl (lv_at hl 1 rfl) ?_
    replace h := g_ck h
    obtain ⟨k_2, h⟩ := h
    refine va_bald J.1 J.2.1 hJ.1 hP 1 2 rfl rfl k_2 d_MD_byteAt_13 ?_
    refine lv_sipush (v := 255) J.1 J.2.1 d_MD_byteAt_14 (by decide) ?_
    refine lv_iand J.1 J.2.1 d_MD_byteAt_17 ?_
    refine lv_goto (tgt := 22) J.1 J.2.1 d_MD_byteAt_18 (by decide) ?_
    have h := Option.some.inj h
    rw [← h]
    exact jr_i J hS hP hD rfl d_MD_byteAt_22

theorem hd_MD_isOver : y_MD_isOver.cls ≠ "java/lang/invoke/MethodHandle" ∧ y_MD_isOver.cls ≠ "java/lang/invoke/VarHandle" ∧ (parseMethodDescriptor y_MD_isOver.desc).map (fun d => d.parameters.length) = some 0 := by decide +kernel
def f_MD_isOver (zat : Int32) (zend : Int32) (ztape : Nat → Int32) : Option (Int32) := (if zend ≤ zat then (some 1) else (if ck zat 3000 then (if (ztape zat.toNatClampNeg) = (10 : Int32) then (some 1) else (if ck zat 3000 then (if (ztape zat.toNatClampNeg) = (59 : Int32) then (some 1) else (some 0)) else none)) else none))
set_option maxHeartbeats 4000000 in
set_option maxRecDepth 100000 in
theorem ct_MD_isOver (l : Launch) (E : jz_E) (n0 n_base n_bound n_depth n_disk n_halted n_isThere n_labelAddress n_labelFrom n_labelSize n_made n_memory n_mode n_output n_outs n_pc n_ranOut n_register n_size n_steps n_tape n_timer n_typed n_waits n_wants : Nat) (sz : Nat) (ztaped : Int32) (zat : Int32) (zend : Int32) (zline : Int32) (zlabels : Int32) (zfault : Int32) (zfaultLine : Int32) (zisTold : Int32) (zaddress : Int32) (zmissing : Int32) (zgood : Int32) (zvalue : Int32) (zvalueFrom : Int32) (zvalueSize : Int32) (zme : Int32) (ztape : Nat → Int32) (o_r : Int32)  (h : f_MD_isOver zat zend ztape = some o_r) : CTi l E y_MD_isOver c_MD_isOver 1 (some .boolean) ({ frames := 0, cells := 0, slots := 0, locals := 0 }) [.ref n0] [(n0, .inr (6, [.ref n_tape, .int ztaped, .ref n_isThere, .ref n_size, .ref n_depth, .ref n_memory, .ref n_register, .ref n_mode, .ref n_pc, .ref n_base, .ref n_bound, .ref n_timer, .ref n_ranOut, .ref n_halted, .ref n_steps, .ref n_outs, .ref n_output, .ref n_waits, .ref n_typed, .ref n_disk, .ref n_wants, .int zat, .int zend, .int zline, .ref n_labelFrom, .ref n_labelSize, .ref n_labelAddress, .int zlabels, .int zfault, .int zfaultLine, .int zisTold, .int zaddress, .ref n_made, .int zmissing, .int zgood, .int zvalue, .int zvalueFrom, .int zvalueSize, .int zme])), (n_tape, .inl (E.2.1 2, 3000, .inl ztape))] sz o_r [(n0, .inr (6, [.ref n_tape, .int ztaped, .ref n_isThere, .ref n_size, .ref n_depth, .ref n_memory, .ref n_register, .ref n_mode, .ref n_pc, .ref n_base, .ref n_bound, .ref n_timer, .ref n_ranOut, .ref n_halted, .ref n_steps, .ref n_outs, .ref n_output, .ref n_waits, .ref n_typed, .ref n_disk, .ref n_wants, .int zat, .int zend, .int zline, .ref n_labelFrom, .ref n_labelSize, .ref n_labelAddress, .int zlabels, .int zfault, .int zfaultLine, .int zisTold, .int zaddress, .ref n_made, .int zmissing, .int zgood, .int zvalue, .int zvalueFrom, .int zvalueSize, .int zme])), (n_tape, .inl (E.2.1 2, 3000, .inl ztape))] := by
  refine jw (by decide +kernel) (Nat.le_of_ble_eq_true rfl) ?_
  intro p e s m below meth c A ls J hJ hAe hsz hA hZ hP hD hl
  rw [← hAe]
  have hS : va_S A s.heap s.heap [] := va_S.rf
  have hl : lv_has ls 1 [(0, .ref n0)] := hl
  unfold f_MD_isOver at h
  refine lv_aload_n J.1 J.2.1 d_MD_isOver_0 rfl (lv_at hl 0 rfl) ?_
  refine jg J hJ hP 0 rfl rfl i_MD 21 (by decide) gf_MD_95 rfl d_MD_isOver_1 ?_
  refine lv_aload_n J.1 J.2.1 d_MD_isOver_4 rfl (lv_at hl 0 rfl) ?_
  refine jg J hJ hP 0 rfl rfl i_MD 22 (by decide) gf_MD_92 rfl d_MD_isOver_5 ?_
  refine lv_icmp_ge (tgt := 39) J.1 J.2.1 d_MD_isOver_8 (by decide) (fun c_1 => ?_) (fun c_1 => ?_)
  · replace h := g_t c_1 h
    refine lv_iconst (v := 1) J.1 J.2.1 d_MD_isOver_39 (by decide) ?_
    refine lv_goto (tgt := 44) J.1 J.2.1 d_MD_isOver_40 (by decide) ?_
    have h := Option.some.inj h
    rw [← h]
    exact jr_i J hS hP hD rfl d_MD_isOver_44
  · replace h := g_f c_1 h
    refine lv_aload_n J.1 J.2.1 d_MD_isOver_11 rfl (lv_at hl 0 rfl) ?_
    refine jg J hJ hP 0 rfl rfl i_MD 0 (by decide) gf_MD_11 rfl d_MD_isOver_12 ?_
    refine lv_aload_n J.1 J.2.1 d_MD_isOver_15 rfl (lv_at hl 0 rfl) ?_
    refine jg J hJ hP 0 rfl rfl i_MD 21 (by decide) gf_MD_95 rfl d_MD_isOver_16 ?_
    replace h := g_ck h
    obtain ⟨k_2, h⟩ := h
    refine va_bald J.1 J.2.1 hJ.1 hP 1 2 rfl rfl k_2 d_MD_isOver_19 ?_
    refine lv_bipush (v := 10) J.1 J.2.1 d_MD_isOver_20 (by decide) ?_
    refine lv_icmp_eq (tgt := 39) J.1 J.2.1 d_MD_isOver_22 (by decide) (fun c_3 => ?_) (fun c_3 => ?_)
    · replace h := g_t c_3 h
      refine lv_iconst (v := 1) J.1 J.2.1 d_MD_isOver_39 (by decide) ?_
      refine lv_goto (tgt := 44) J.1 J.2.1 d_MD_isOver_40 (by decide) ?_
      have h := Option.some.inj h
      rw [← h]
      exact jr_i J hS hP hD rfl d_MD_isOver_44
    · replace h := g_f c_3 h
      refine lv_aload_n J.1 J.2.1 d_MD_isOver_25 rfl (lv_at hl 0 rfl) ?_
      refine jg J hJ hP 0 rfl rfl i_MD 0 (by decide) gf_MD_11 rfl d_MD_isOver_26 ?_
      refine lv_aload_n J.1 J.2.1 d_MD_isOver_29 rfl (lv_at hl 0 rfl) ?_
      refine jg J hJ hP 0 rfl rfl i_MD 21 (by decide) gf_MD_95 rfl d_MD_isOver_30 ?_
      replace h := g_ck h
      obtain ⟨k_4, h⟩ := h
      refine va_bald J.1 J.2.1 hJ.1 hP 1 2 rfl rfl k_4 d_MD_isOver_33 ?_
      refine lv_bipush (v := 59) J.1 J.2.1 d_MD_isOver_34 (by decide) ?_
      refine lv_icmp_ne (tgt := 43) J.1 J.2.1 d_MD_isOver_36 (by decide) (fun c_5 => ?_) (fun c_5 => ?_)
      · replace h := g_f c_5 h
        refine lv_iconst (v := 0) J.1 J.2.1 d_MD_isOver_43 (by decide) ?_
        have h := Option.some.inj h
        rw [← h]
        exact jr_i J hS hP hD rfl d_MD_isOver_44
      · replace h := g_t c_5 h
        refine lv_iconst (v := 1) J.1 J.2.1 d_MD_isOver_39 (by decide) ?_
        refine lv_goto (tgt := 44) J.1 J.2.1 d_MD_isOver_40 (by decide) ?_
        have h := Option.some.inj h
        rw [← h]
        exact jr_i J hS hP hD rfl d_MD_isOver_44

theorem hd_MD_blanks : y_MD_blanks.cls ≠ "java/lang/invoke/MethodHandle" ∧ y_MD_blanks.cls ≠ "java/lang/invoke/VarHandle" ∧ (parseMethodDescriptor y_MD_blanks.desc).map (fun d => d.parameters.length) = some 0 := by decide +kernel
def b_MD_blanks_0 : Nat → Int32 → Int32 → (Nat → Int32) → Option (Int32)
  | 0, _, _, _ => none
  | n + 1, zat, zend, ztape => (if zend ≤ zat then (some zat) else (if ck zat 3000 then (if (ztape zat.toNatClampNeg) = (32 : Int32) then b_MD_blanks_0 n (zat + 1) zend ztape else (some zat)) else none))
def f_MD_blanks (zat : Int32) (zend : Int32) (ztape : Nat → Int32) : Option (Int32) := b_MD_blanks_0 65536 zat zend ztape
set_option maxHeartbeats 4000000 in
set_option maxRecDepth 100000 in
theorem kb_MD_blanks_0 {p : Program} {l : Launch} {e : Env} {s : State} {m : MethodId} {below : List Frame} {meth : Method} {c : Code} {A : Nat → Prop} {E : jz_E} {n0 n_base n_bound n_depth n_disk n_halted n_isThere n_labelAddress n_labelFrom n_labelSize n_made n_memory n_mode n_output n_outs n_pc n_ranOut n_register n_size n_steps n_tape n_timer n_typed n_waits n_wants : Nat} {o_zat : Int32} (J : JC p s m ([.ref n0] : List Value).toArray meth c c_MD_blanks 1 none y_MD_blanks.cls) (hJ : jE E s) (hA : ∀ q : Nat, s.heap.size ≤ q → A q) (hZ : jz_ok E A s s.heap) : ∀ (n : Nat) (ztaped : Int32) (zat : Int32) (zend : Int32) (zline : Int32) (zlabels : Int32) (zfault : Int32) (zfaultLine : Int32) (zisTold : Int32) (zaddress : Int32) (zmissing : Int32) (zgood : Int32) (zvalue : Int32) (zvalueFrom : Int32) (zvalueSize : Int32) (zme : Int32) (ztape : Nat → Int32) (H : Heap) (locs : List Loc) (ls : Array Slot), b_MD_blanks_0 n zat zend ztape = some o_zat → va_P E.1 classes [(n0, .inr (6, [.ref n_tape, .int ztaped, .ref n_isThere, .ref n_size, .ref n_depth, .ref n_memory, .ref n_register, .ref n_mode, .ref n_pc, .ref n_base, .ref n_bound, .ref n_timer, .ref n_ranOut, .ref n_halted, .ref n_steps, .ref n_outs, .ref n_output, .ref n_waits, .ref n_typed, .ref n_disk, .ref n_wants, .int zat, .int zend, .int zline, .ref n_labelFrom, .ref n_labelSize, .ref n_labelAddress, .int zlabels, .int zfault, .int zfaultLine, .int zisTold, .int zaddress, .ref n_made, .int zmissing, .int zgood, .int zvalue, .int zvalueFrom, .int zvalueSize, .int zme])), (n_tape, .inl (E.2.1 2, 3000, .inl ztape))] H → va_D A [(n0, .inr (6, [.ref n_tape, .int ztaped, .ref n_isThere, .ref n_size, .ref n_depth, .ref n_memory, .ref n_register, .ref n_mode, .ref n_pc, .ref n_base, .ref n_bound, .ref n_timer, .ref n_ranOut, .ref n_halted, .ref n_steps, .ref n_outs, .ref n_output, .ref n_waits, .ref n_typed, .ref n_disk, .ref n_wants, .int zat, .int zend, .int zline, .ref n_labelFrom, .ref n_labelSize, .ref n_labelAddress, .int zlabels, .int zfault, .int zfaultLine, .int zisTold, .int zaddress, .ref n_made, .int zmissing, .int zgood, .int zvalue, .int zvalueFrom, .int zvalueSize, .int zme])), (n_tape, .inl (E.2.1 2, 3000, .inl ztape))] → va_S A s.heap H locs → lv_has ls 1 [(0, .ref n0)] → W p l e ({ frames := 0, cells := 0, slots := 0, locals := 0 }) s m ([.ref n0] : List Value).toArray below meth c H locs 0 0 (MQ below (va_Qv (fun (u : va_W) => u = [(n0, .inr (6, [.ref n_tape, .int ztaped, .ref n_isThere, .ref n_size, .ref n_depth, .ref n_memory, .ref n_register, .ref n_mode, .ref n_pc, .ref n_base, .ref n_bound, .ref n_timer, .ref n_ranOut, .ref n_halted, .ref n_steps, .ref n_outs, .ref n_output, .ref n_waits, .ref n_typed, .ref n_disk, .ref n_wants, .int o_zat, .int zend, .int zline, .ref n_labelFrom, .ref n_labelSize, .ref n_labelAddress, .int zlabels, .int zfault, .int zfaultLine, .int zisTold, .int zaddress, .ref n_made, .int zmissing, .int zgood, .int zvalue, .int zvalueFrom, .int zvalueSize, .int zme])), (n_tape, .inl (E.2.1 2, 3000, .inl ztape))]) (BW E A) A) ([.ref n0] : List Value).toArray s 0 0 A) (F0 m 0 ls []) := by
  intro n
  induction n with
  | zero => intro ztaped zat zend zline zlabels zfault zfaultLine zisTold zaddress zmissing zgood zvalue zvalueFrom zvalueSize zme ztape H locs ls h; cases h
  | succ n ih =>
    intro ztaped zat zend zline zlabels zfault zfaultLine zisTold zaddress zmissing zgood zvalue zvalueFrom zvalueSize zme ztape H locs ls h hP hD hS hl
    rw [b_MD_blanks_0] at h
    refine lv_aload_n J.1 J.2.1 d_MD_blanks_0 rfl (lv_at hl 0 rfl) ?_
    refine jg J hJ hP 0 rfl rfl i_MD 21 (by decide) gf_MD_95 rfl d_MD_blanks_1 ?_
    refine lv_aload_n J.1 J.2.1 d_MD_blanks_4 rfl (lv_at hl 0 rfl) ?_
    refine jg J hJ hP 0 rfl rfl i_MD 22 (by decide) gf_MD_92 rfl d_MD_blanks_5 ?_
    refine lv_icmp_ge (tgt := 38) J.1 J.2.1 d_MD_blanks_8 (by decide) (fun c_1 => ?_) (fun c_1 => ?_)
    · replace h := g_t c_1 h
      have h := Option.some.inj h
      rw [← h]
      exact jr_v J hS hP hD d_MD_blanks_38
    · replace h := g_f c_1 h
      refine lv_aload_n J.1 J.2.1 d_MD_blanks_11 rfl (lv_at hl 0 rfl) ?_
      refine jg J hJ hP 0 rfl rfl i_MD 0 (by decide) gf_MD_11 rfl d_MD_blanks_12 ?_
      refine lv_aload_n J.1 J.2.1 d_MD_blanks_15 rfl (lv_at hl 0 rfl) ?_
      refine jg J hJ hP 0 rfl rfl i_MD 21 (by decide) gf_MD_95 rfl d_MD_blanks_16 ?_
      replace h := g_ck h
      obtain ⟨k_2, h⟩ := h
      refine va_bald J.1 J.2.1 hJ.1 hP 1 2 rfl rfl k_2 d_MD_blanks_19 ?_
      refine lv_bipush (v := 32) J.1 J.2.1 d_MD_blanks_20 (by decide) ?_
      refine lv_icmp_ne (tgt := 38) J.1 J.2.1 d_MD_blanks_22 (by decide) (fun c_3 => ?_) (fun c_3 => ?_)
      · replace h := g_f c_3 h
        have h := Option.some.inj h
        rw [← h]
        exact jr_v J hS hP hD d_MD_blanks_38
      · replace h := g_t c_3 h
        refine lv_aload_n J.1 J.2.1 d_MD_blanks_25 rfl (lv_at hl 0 rfl) ?_
        refine lv_dup J.1 J.2.1 d_MD_blanks_26 rfl ?_
        refine jg J hJ hP 0 rfl rfl i_MD 21 (by decide) gf_MD_95 rfl d_MD_blanks_27 ?_
        refine lv_iconst (v := 1) J.1 J.2.1 d_MD_blanks_30 (by decide) ?_
        refine lv_iadd J.1 J.2.1 d_MD_blanks_31 ?_
        refine jp J hJ hP hD hS 0 rfl rfl i_MD t_MD t_MD_ok n_MD 21 (by decide) gf_MD_95 rfl rfl rfl (Nat.le_of_ble_eq_true rfl) d_MD_blanks_32 (WS' := [(n0, .inr (6, [.ref n_tape, .int ztaped, .ref n_isThere, .ref n_size, .ref n_depth, .ref n_memory, .ref n_register, .ref n_mode, .ref n_pc, .ref n_base, .ref n_bound, .ref n_timer, .ref n_ranOut, .ref n_halted, .ref n_steps, .ref n_outs, .ref n_output, .ref n_waits, .ref n_typed, .ref n_disk, .ref n_wants, .int (zat + 1), .int zend, .int zline, .ref n_labelFrom, .ref n_labelSize, .ref n_labelAddress, .int zlabels, .int zfault, .int zfaultLine, .int zisTold, .int zaddress, .ref n_made, .int zmissing, .int zgood, .int zvalue, .int zvalueFrom, .int zvalueSize, .int zme])), (n_tape, .inl (E.2.1 2, 3000, .inl ztape))]) rfl ?_
        clear hP hD hS
        intro H locs hP hD hS
        refine lv_goto (tgt := 0) J.1 J.2.1 d_MD_blanks_35 (by decide) ?_
        exact ih _ _ _ _ _ _ _ _ _ _ _ _ _ _ _ _ _ _ _ h hP hD hS (lv_sub hl [0] rfl)
set_option maxHeartbeats 4000000 in
set_option maxRecDepth 100000 in
theorem ct_MD_blanks (l : Launch) (E : jz_E) (n0 n_base n_bound n_depth n_disk n_halted n_isThere n_labelAddress n_labelFrom n_labelSize n_made n_memory n_mode n_output n_outs n_pc n_ranOut n_register n_size n_steps n_tape n_timer n_typed n_waits n_wants : Nat) (sz : Nat) (ztaped : Int32) (zat : Int32) (zend : Int32) (zline : Int32) (zlabels : Int32) (zfault : Int32) (zfaultLine : Int32) (zisTold : Int32) (zaddress : Int32) (zmissing : Int32) (zgood : Int32) (zvalue : Int32) (zvalueFrom : Int32) (zvalueSize : Int32) (zme : Int32) (ztape : Nat → Int32) (o_zat : Int32)  (h : f_MD_blanks zat zend ztape = some o_zat) : CTv l E y_MD_blanks c_MD_blanks 1 none ({ frames := 0, cells := 0, slots := 0, locals := 0 }) [.ref n0] [(n0, .inr (6, [.ref n_tape, .int ztaped, .ref n_isThere, .ref n_size, .ref n_depth, .ref n_memory, .ref n_register, .ref n_mode, .ref n_pc, .ref n_base, .ref n_bound, .ref n_timer, .ref n_ranOut, .ref n_halted, .ref n_steps, .ref n_outs, .ref n_output, .ref n_waits, .ref n_typed, .ref n_disk, .ref n_wants, .int zat, .int zend, .int zline, .ref n_labelFrom, .ref n_labelSize, .ref n_labelAddress, .int zlabels, .int zfault, .int zfaultLine, .int zisTold, .int zaddress, .ref n_made, .int zmissing, .int zgood, .int zvalue, .int zvalueFrom, .int zvalueSize, .int zme])), (n_tape, .inl (E.2.1 2, 3000, .inl ztape))] sz [(n0, .inr (6, [.ref n_tape, .int ztaped, .ref n_isThere, .ref n_size, .ref n_depth, .ref n_memory, .ref n_register, .ref n_mode, .ref n_pc, .ref n_base, .ref n_bound, .ref n_timer, .ref n_ranOut, .ref n_halted, .ref n_steps, .ref n_outs, .ref n_output, .ref n_waits, .ref n_typed, .ref n_disk, .ref n_wants, .int o_zat, .int zend, .int zline, .ref n_labelFrom, .ref n_labelSize, .ref n_labelAddress, .int zlabels, .int zfault, .int zfaultLine, .int zisTold, .int zaddress, .ref n_made, .int zmissing, .int zgood, .int zvalue, .int zvalueFrom, .int zvalueSize, .int zme])), (n_tape, .inl (E.2.1 2, 3000, .inl ztape))] := by
  refine jw (by decide +kernel) (Nat.le_of_ble_eq_true rfl) ?_
  intro p e s m below meth c A ls J hJ hAe hsz hA hZ hP hD hl
  rw [← hAe]
  have hS : va_S A s.heap s.heap [] := va_S.rf
  have hl : lv_has ls 1 [(0, .ref n0)] := hl
  unfold f_MD_blanks at h
  exact kb_MD_blanks_0 J hJ hA hZ _ _ _ _ _ _ _ _ _ _ _ _ _ _ _ _ _ _ _ _ h hP hD hS (lv_sub hl [0] rfl)

theorem hd_MD_isSmall : y_MD_isSmall.cls ≠ "java/lang/invoke/MethodHandle" ∧ y_MD_isSmall.cls ≠ "java/lang/invoke/VarHandle" ∧ (parseMethodDescriptor y_MD_isSmall.desc).map (fun d => d.parameters.length) = some 1 := by decide +kernel
def f_MD_isSmall (p0 : Int32) : Option (Int32) := (if p0 < (97 : Int32) then (some 0) else (if (122 : Int32) < p0 then (some 0) else (some 1)))
set_option maxHeartbeats 4000000 in
set_option maxRecDepth 100000 in
theorem ct_MD_isSmall (l : Launch) (E : jz_E)  (sz : Nat) (p0 : Int32) (o_r : Int32)  (h : f_MD_isSmall p0 = some o_r) : CTi l E y_MD_isSmall c_MD_isSmall 1 (some .boolean) ({ frames := 0, cells := 0, slots := 0, locals := 0 }) [.int p0] [] sz o_r [] := by
  refine jw (by decide +kernel) (Nat.le_of_ble_eq_true rfl) ?_
  intro p e s m below meth c A ls J hJ hAe hsz hA hZ hP hD hl
  rw [← hAe]
  have hS : va_S A s.heap s.heap [] := va_S.rf
  have hl : lv_has ls 1 [(0, .int p0)] := hl
  unfold f_MD_isSmall at h
  refine lv_iload_n J.1 J.2.1 d_MD_isSmall_0 rfl (lv_at hl 0 rfl) ?_
  refine lv_bipush (v := 97) J.1 J.2.1 d_MD_isSmall_1 (by decide) ?_
  refine lv_icmp_lt (tgt := 16) J.1 J.2.1 d_MD_isSmall_3 (by decide) (fun c_1 => ?_) (fun c_1 => ?_)
  · replace h := g_t c_1 h
    refine lv_iconst (v := 0) J.1 J.2.1 d_MD_isSmall_16 (by decide) ?_
    have h := Option.some.inj h
    rw [← h]
    exact jr_i J hS hP hD rfl d_MD_isSmall_17
  · replace h := g_f c_1 h
    refine lv_iload_n J.1 J.2.1 d_MD_isSmall_6 rfl (lv_at hl 0 rfl) ?_
    refine lv_bipush (v := 122) J.1 J.2.1 d_MD_isSmall_7 (by decide) ?_
    refine lv_icmp_gt (tgt := 16) J.1 J.2.1 d_MD_isSmall_9 (by decide) (fun c_2 => ?_) (fun c_2 => ?_)
    · replace h := g_t c_2 h
      refine lv_iconst (v := 0) J.1 J.2.1 d_MD_isSmall_16 (by decide) ?_
      have h := Option.some.inj h
      rw [← h]
      exact jr_i J hS hP hD rfl d_MD_isSmall_17
    · replace h := g_f c_2 h
      refine lv_iconst (v := 1) J.1 J.2.1 d_MD_isSmall_12 (by decide) ?_
      refine lv_goto (tgt := 17) J.1 J.2.1 d_MD_isSmall_13 (by decide) ?_
      have h := Option.some.inj h
      rw [← h]
      exact jr_i J hS hP hD rfl d_MD_isSmall_17

theorem hd_MD_isDigit : y_MD_isDigit.cls ≠ "java/lang/invoke/MethodHandle" ∧ y_MD_isDigit.cls ≠ "java/lang/invoke/VarHandle" ∧ (parseMethodDescriptor y_MD_isDigit.desc).map (fun d => d.parameters.length) = some 1 := by decide +kernel
def f_MD_isDigit (p0 : Int32) : Option (Int32) := (if p0 < (48 : Int32) then (some 0) else (if (57 : Int32) < p0 then (some 0) else (some 1)))
set_option maxHeartbeats 4000000 in
set_option maxRecDepth 100000 in
theorem ct_MD_isDigit (l : Launch) (E : jz_E)  (sz : Nat) (p0 : Int32) (o_r : Int32)  (h : f_MD_isDigit p0 = some o_r) : CTi l E y_MD_isDigit c_MD_isDigit 1 (some .boolean) ({ frames := 0, cells := 0, slots := 0, locals := 0 }) [.int p0] [] sz o_r [] := by
  refine jw (by decide +kernel) (Nat.le_of_ble_eq_true rfl) ?_
  intro p e s m below meth c A ls J hJ hAe hsz hA hZ hP hD hl
  rw [← hAe]
  have hS : va_S A s.heap s.heap [] := va_S.rf
  have hl : lv_has ls 1 [(0, .int p0)] := hl
  unfold f_MD_isDigit at h
  refine lv_iload_n J.1 J.2.1 d_MD_isDigit_0 rfl (lv_at hl 0 rfl) ?_
  refine lv_bipush (v := 48) J.1 J.2.1 d_MD_isDigit_1 (by decide) ?_
  refine lv_icmp_lt (tgt := 16) J.1 J.2.1 d_MD_isDigit_3 (by decide) (fun c_1 => ?_) (fun c_1 => ?_)
  · replace h := g_t c_1 h
    refine lv_iconst (v := 0) J.1 J.2.1 d_MD_isDigit_16 (by decide) ?_
    have h := Option.some.inj h
    rw [← h]
    exact jr_i J hS hP hD rfl d_MD_isDigit_17
  · replace h := g_f c_1 h
    refine lv_iload_n J.1 J.2.1 d_MD_isDigit_6 rfl (lv_at hl 0 rfl) ?_
    refine lv_bipush (v := 57) J.1 J.2.1 d_MD_isDigit_7 (by decide) ?_
    refine lv_icmp_gt (tgt := 16) J.1 J.2.1 d_MD_isDigit_9 (by decide) (fun c_2 => ?_) (fun c_2 => ?_)
    · replace h := g_t c_2 h
      refine lv_iconst (v := 0) J.1 J.2.1 d_MD_isDigit_16 (by decide) ?_
      have h := Option.some.inj h
      rw [← h]
      exact jr_i J hS hP hD rfl d_MD_isDigit_17
    · replace h := g_f c_2 h
      refine lv_iconst (v := 1) J.1 J.2.1 d_MD_isDigit_12 (by decide) ?_
      refine lv_goto (tgt := 17) J.1 J.2.1 d_MD_isDigit_13 (by decide) ?_
      have h := Option.some.inj h
      rw [← h]
      exact jr_i J hS hP hD rfl d_MD_isDigit_17

theorem hd_MD_isGreat : y_MD_isGreat.cls ≠ "java/lang/invoke/MethodHandle" ∧ y_MD_isGreat.cls ≠ "java/lang/invoke/VarHandle" ∧ (parseMethodDescriptor y_MD_isGreat.desc).map (fun d => d.parameters.length) = some 1 := by decide +kernel
def f_MD_isGreat (p0 : Int32) : Option (Int32) := (if p0 < (65 : Int32) then (some 0) else (if (90 : Int32) < p0 then (some 0) else (some 1)))
set_option maxHeartbeats 4000000 in
set_option maxRecDepth 100000 in
theorem ct_MD_isGreat (l : Launch) (E : jz_E)  (sz : Nat) (p0 : Int32) (o_r : Int32)  (h : f_MD_isGreat p0 = some o_r) : CTi l E y_MD_isGreat c_MD_isGreat 1 (some .boolean) ({ frames := 0, cells := 0, slots := 0, locals := 0 }) [.int p0] [] sz o_r [] := by
  refine jw (by decide +kernel) (Nat.le_of_ble_eq_true rfl) ?_
  intro p e s m below meth c A ls J hJ hAe hsz hA hZ hP hD hl
  rw [← hAe]
  have hS : va_S A s.heap s.heap [] := va_S.rf
  have hl : lv_has ls 1 [(0, .int p0)] := hl
  unfold f_MD_isGreat at h
  refine lv_iload_n J.1 J.2.1 d_MD_isGreat_0 rfl (lv_at hl 0 rfl) ?_
  refine lv_bipush (v := 65) J.1 J.2.1 d_MD_isGreat_1 (by decide) ?_
  refine lv_icmp_lt (tgt := 16) J.1 J.2.1 d_MD_isGreat_3 (by decide) (fun c_1 => ?_) (fun c_1 => ?_)
  · replace h := g_t c_1 h
    refine lv_iconst (v := 0) J.1 J.2.1 d_MD_isGreat_16 (by decide) ?_
    have h := Option.some.inj h
    rw [← h]
    exact jr_i J hS hP hD rfl d_MD_isGreat_17
  · replace h := g_f c_1 h
    refine lv_iload_n J.1 J.2.1 d_MD_isGreat_6 rfl (lv_at hl 0 rfl) ?_
    refine lv_bipush (v := 90) J.1 J.2.1 d_MD_isGreat_7 (by decide) ?_
    refine lv_icmp_gt (tgt := 16) J.1 J.2.1 d_MD_isGreat_9 (by decide) (fun c_2 => ?_) (fun c_2 => ?_)
    · replace h := g_t c_2 h
      refine lv_iconst (v := 0) J.1 J.2.1 d_MD_isGreat_16 (by decide) ?_
      have h := Option.some.inj h
      rw [← h]
      exact jr_i J hS hP hD rfl d_MD_isGreat_17
    · replace h := g_f c_2 h
      refine lv_iconst (v := 1) J.1 J.2.1 d_MD_isGreat_12 (by decide) ?_
      refine lv_goto (tgt := 17) J.1 J.2.1 d_MD_isGreat_13 (by decide) ?_
      have h := Option.some.inj h
      rw [← h]
      exact jr_i J hS hP hD rfl d_MD_isGreat_17

theorem hd_MD_nameAt : y_MD_nameAt.cls ≠ "java/lang/invoke/MethodHandle" ∧ y_MD_nameAt.cls ≠ "java/lang/invoke/VarHandle" ∧ (parseMethodDescriptor y_MD_nameAt.desc).map (fun d => d.parameters.length) = some 1 := by decide +kernel
def b_MD_nameAt_15 : Nat → Int32 → (Nat → Int32) → Int32 → Int32 → Option (Int32)
  | 0, _, _, _, _ => none
  | n + 1, zend, ztape, x1, x2 => ((f_MD_byteAt zend ztape (x1 + x2)).bind fun r_1 => ((f_MD_isSmall  r_1).bind fun r_2 => (if r_2 = (0 : Int32) then ((f_MD_byteAt zend ztape (x1 + x2)).bind fun r_4 => ((f_MD_isDigit  r_4).bind fun r_5 => (if r_5 = (0 : Int32) then (if x2 ≤ (8 : Int32) then (some x2) else (some 0)) else b_MD_nameAt_15 n zend ztape x1 (x2 + 1)))) else b_MD_nameAt_15 n zend ztape x1 (x2 + 1))))
def f_MD_nameAt (zend : Int32) (ztape : Nat → Int32) (p1 : Int32) : Option (Int32) := ((f_MD_byteAt zend ztape p1).bind fun r_8 => ((f_MD_isSmall  r_8).bind fun r_9 => (if r_9 = (0 : Int32) then (some 0) else b_MD_nameAt_15 65536 zend ztape p1 1)))
set_option maxHeartbeats 4000000 in
set_option maxRecDepth 100000 in
theorem kb_MD_nameAt_15 {p : Program} {l : Launch} {e : Env} {s : State} {m : MethodId} {below : List Frame} {meth : Method} {c : Code} {A : Nat → Prop} {E : jz_E} {n0 n_base n_bound n_depth n_disk n_halted n_isThere n_labelAddress n_labelFrom n_labelSize n_made n_memory n_mode n_output n_outs n_pc n_ranOut n_register n_size n_steps n_tape n_timer n_typed n_waits n_wants : Nat} {p1 : Int32} {o_r : Int32} (J : JC p s m ([.ref n0, .int p1] : List Value).toArray meth c c_MD_nameAt 3 (some .int) y_MD_nameAt.cls) (hJ : jE E s) (hA : ∀ q : Nat, s.heap.size ≤ q → A q) (hZ : jz_ok E A s s.heap) : ∀ (n : Nat) (ztaped : Int32) (zat : Int32) (zend : Int32) (zline : Int32) (zlabels : Int32) (zfault : Int32) (zfaultLine : Int32) (zisTold : Int32) (zaddress : Int32) (zmissing : Int32) (zgood : Int32) (zvalue : Int32) (zvalueFrom : Int32) (zvalueSize : Int32) (zme : Int32) (ztape : Nat → Int32) (x1 : Int32) (x2 : Int32) (H : Heap) (locs : List Loc) (ls : Array Slot), b_MD_nameAt_15 n zend ztape x1 x2 = some o_r → va_P E.1 classes [(n0, .inr (6, [.ref n_tape, .int ztaped, .ref n_isThere, .ref n_size, .ref n_depth, .ref n_memory, .ref n_register, .ref n_mode, .ref n_pc, .ref n_base, .ref n_bound, .ref n_timer, .ref n_ranOut, .ref n_halted, .ref n_steps, .ref n_outs, .ref n_output, .ref n_waits, .ref n_typed, .ref n_disk, .ref n_wants, .int zat, .int zend, .int zline, .ref n_labelFrom, .ref n_labelSize, .ref n_labelAddress, .int zlabels, .int zfault, .int zfaultLine, .int zisTold, .int zaddress, .ref n_made, .int zmissing, .int zgood, .int zvalue, .int zvalueFrom, .int zvalueSize, .int zme])), (n_tape, .inl (E.2.1 2, 3000, .inl ztape))] H → va_D A [(n0, .inr (6, [.ref n_tape, .int ztaped, .ref n_isThere, .ref n_size, .ref n_depth, .ref n_memory, .ref n_register, .ref n_mode, .ref n_pc, .ref n_base, .ref n_bound, .ref n_timer, .ref n_ranOut, .ref n_halted, .ref n_steps, .ref n_outs, .ref n_output, .ref n_waits, .ref n_typed, .ref n_disk, .ref n_wants, .int zat, .int zend, .int zline, .ref n_labelFrom, .ref n_labelSize, .ref n_labelAddress, .int zlabels, .int zfault, .int zfaultLine, .int zisTold, .int zaddress, .ref n_made, .int zmissing, .int zgood, .int zvalue, .int zvalueFrom, .int zvalueSize, .int zme])), (n_tape, .inl (E.2.1 2, 3000, .inl ztape))] → va_S A s.heap H locs → lv_has ls 3 [(0, .ref n0), (1, .int x1), (2, .int x2)] → W p l e ({ frames := 1, cells := 0, slots := 0, locals := 21 }) s m ([.ref n0, .int p1] : List Value).toArray below meth c H locs 0 0 (MQ below (va_Qi (fun (r' : Int32) (u : va_W) => r' = o_r ∧ u = [(n0, .inr (6, [.ref n_tape, .int ztaped, .ref n_isThere, .ref n_size, .ref n_depth, .ref n_memory, .ref n_register, .ref n_mode, .ref n_pc, .ref n_base, .ref n_bound, .ref n_timer, .ref n_ranOut, .ref n_halted, .ref n_steps, .ref n_outs, .ref n_output, .ref n_waits, .ref n_typed, .ref n_disk, .ref n_wants, .int zat, .int zend, .int zline, .ref n_labelFrom, .ref n_labelSize, .ref n_labelAddress, .int zlabels, .int zfault, .int zfaultLine, .int zisTold, .int zaddress, .ref n_made, .int zmissing, .int zgood, .int zvalue, .int zvalueFrom, .int zvalueSize, .int zme])), (n_tape, .inl (E.2.1 2, 3000, .inl ztape))]) (BW E A) A) ([.ref n0, .int p1] : List Value).toArray s 0 0 A) (F0 m 15 ls []) := by
  intro n
  induction n with
  | zero => intro ztaped zat zend zline zlabels zfault zfaultLine zisTold zaddress zmissing zgood zvalue zvalueFrom zvalueSize zme ztape x1 x2 H locs ls h; cases h
  | succ n ih =>
    intro ztaped zat zend zline zlabels zfault zfaultLine zisTold zaddress zmissing zgood zvalue zvalueFrom zvalueSize zme ztape x1 x2 H locs ls h hP hD hS hl
    rw [b_MD_nameAt_15] at h
    refine lv_aload_n J.1 J.2.1 d_MD_nameAt_15 rfl (lv_at hl 0 rfl) ?_
    refine lv_iload_n J.1 J.2.1 d_MD_nameAt_16 rfl (lv_at hl 1 rfl) ?_
    refine lv_iload_n J.1 J.2.1 d_MD_nameAt_17 rfl (lv_at hl 2 rfl) ?_
    refine lv_iadd J.1 J.2.1 d_MD_nameAt_18 ?_
    replace h := g_bd h
    obtain ⟨r_1, q_1, h⟩ := h
    have hq := ct_MD_byteAt l E n0 n_base n_bound n_depth n_disk n_halted n_isThere n_labelAddress n_labelFrom n_labelSize n_made n_memory n_mode n_output n_outs n_pc n_ranOut n_register n_size n_steps n_tape n_timer n_typed n_waits n_wants H.size ztaped zat zend zline zlabels zfault zfaultLine zisTold zaddress zmissing zgood zvalue zvalueFrom zvalueSize zme ztape (x1 + x2) r_1 q_1
    have hr := jrunV (p := p) (e := e) (below := below) (R := ({ frames := 1, cells := 0, slots := 0, locals := 21 })) (cells := 0) (slots := 0) (As := [.int (x1 + x2)]) (rest := []) J hJ hA hZ hP hD hS hq [0, 1] rfl (by decide) gl_MD_98 gi_MD_byteAt gsel_MD_byteAt gini_MD gc_MD_byteAt hd_MD_byteAt ⟨rfl, rfl, Nat.le_of_ble_eq_true rfl, Nat.le_of_ble_eq_true rfl⟩ rfl rfl hl.1 rfl rfl (Nat.le_of_ble_eq_true rfl) d_MD_nameAt_19 ⟨Nat.zero_le _, Nat.zero_le _⟩
    clear hq
    refine jk_i hr hA hP hD hS [0, 1] [] (WR := []) rfl rfl (by decide) (by decide) [0, 1] (WF := [(n0, .inr (6, [.ref n_tape, .int ztaped, .ref n_isThere, .ref n_size, .ref n_depth, .ref n_memory, .ref n_register, .ref n_mode, .ref n_pc, .ref n_base, .ref n_bound, .ref n_timer, .ref n_ranOut, .ref n_halted, .ref n_steps, .ref n_outs, .ref n_output, .ref n_waits, .ref n_typed, .ref n_disk, .ref n_wants, .int zat, .int zend, .int zline, .ref n_labelFrom, .ref n_labelSize, .ref n_labelAddress, .int zlabels, .int zfault, .int zfaultLine, .int zisTold, .int zaddress, .ref n_made, .int zmissing, .int zgood, .int zvalue, .int zvalueFrom, .int zvalueSize, .int zme])), (n_tape, .inl (E.2.1 2, 3000, .inl ztape))]) rfl (by decide) ?_
    clear hP hD hS
    intro H locs hP hD hS
    clear hr
    replace h := g_bd h
    obtain ⟨r_2, q_2, h⟩ := h
    have hq := ct_MD_isSmall l E  H.size  r_1 r_2 q_2
    have hr := jrunS (p := p) (e := e) (below := below) (R := ({ frames := 1, cells := 0, slots := 0, locals := 21 })) (cells := 0) (slots := 0) (As := [.int r_1]) (rest := []) J hJ hA hZ hP hD hS hq [] rfl (by decide) gl_MD_102 gs_MD_isSmall gini_MD gc_MD_isSmall hd_MD_isSmall ⟨rfl, rfl, Nat.le_of_ble_eq_true rfl, Nat.le_of_ble_eq_true rfl⟩ hl.1 rfl rfl (Nat.le_of_ble_eq_true rfl) d_MD_nameAt_22 ⟨Nat.zero_le _, Nat.zero_le _⟩
    clear hq
    refine jk_i hr hA hP hD hS [] [0, 1] (WR := [(n0, .inr (6, [.ref n_tape, .int ztaped, .ref n_isThere, .ref n_size, .ref n_depth, .ref n_memory, .ref n_register, .ref n_mode, .ref n_pc, .ref n_base, .ref n_bound, .ref n_timer, .ref n_ranOut, .ref n_halted, .ref n_steps, .ref n_outs, .ref n_output, .ref n_waits, .ref n_typed, .ref n_disk, .ref n_wants, .int zat, .int zend, .int zline, .ref n_labelFrom, .ref n_labelSize, .ref n_labelAddress, .int zlabels, .int zfault, .int zfaultLine, .int zisTold, .int zaddress, .ref n_made, .int zmissing, .int zgood, .int zvalue, .int zvalueFrom, .int zvalueSize, .int zme])), (n_tape, .inl (E.2.1 2, 3000, .inl ztape))]) rfl rfl (by decide) (by decide) [0, 1] (WF := [(n0, .inr (6, [.ref n_tape, .int ztaped, .ref n_isThere, .ref n_size, .ref n_depth, .ref n_memory, .ref n_register, .ref n_mode, .ref n_pc, .ref n_base, .ref n_bound, .ref n_timer, .ref n_ranOut, .ref n_halted, .ref n_steps, .ref n_outs, .ref n_output, .ref n_waits, .ref n_typed, .ref n_disk, .ref n_wants, .int zat, .int zend, .int zline, .ref n_labelFrom, .ref n_labelSize, .ref n_labelAddress, .int zlabels, .int zfault, .int zfaultLine, .int zisTold, .int zaddress, .ref n_made, .int zmissing, .int zgood, .int zvalue, .int zvalueFrom, .int zvalueSize, .int zme])), (n_tape, .inl (E.2.1 2, 3000, .inl ztape))]) rfl (by decide) ?_
    clear hP hD hS
    intro H locs hP hD hS
    clear hr
    refine lv_if_ne (tgt := 41) J.1 J.2.1 d_MD_nameAt_25 (by decide) (fun c_3 => ?_) (fun c_3 => ?_)
    · replace h := g_f c_3 h
      refine lv_iinc (v := (x2 + 1)) (lv' := [(2, .int (x2 + 1)), (0, .ref n0), (1, .int x1)]) J.1 J.2.1 d_MD_nameAt_41 hl (k := 2) rfl rfl (by decide) rfl ?_
      clear hl
      intro ls hl
      refine lv_goto (tgt := 15) J.1 J.2.1 d_MD_nameAt_44 (by decide) ?_
      exact ih _ _ _ _ _ _ _ _ _ _ _ _ _ _ _ _ _ _ _ _ _ h hP hD hS (lv_sub hl [1, 2, 0] rfl)
    · replace h := g_t c_3 h
      refine lv_aload_n J.1 J.2.1 d_MD_nameAt_28 rfl (lv_at hl 0 rfl) ?_
      refine lv_iload_n J.1 J.2.1 d_MD_nameAt_29 rfl (lv_at hl 1 rfl) ?_
      refine lv_iload_n J.1 J.2.1 d_MD_nameAt_30 rfl (lv_at hl 2 rfl) ?_
      refine lv_iadd J.1 J.2.1 d_MD_nameAt_31 ?_
      replace h := g_bd h
      obtain ⟨r_4, q_4, h⟩ := h
      have hq := ct_MD_byteAt l E n0 n_base n_bound n_depth n_disk n_halted n_isThere n_labelAddress n_labelFrom n_labelSize n_made n_memory n_mode n_output n_outs n_pc n_ranOut n_register n_size n_steps n_tape n_timer n_typed n_waits n_wants H.size ztaped zat zend zline zlabels zfault zfaultLine zisTold zaddress zmissing zgood zvalue zvalueFrom zvalueSize zme ztape (x1 + x2) r_4 q_4
      have hr := jrunV (p := p) (e := e) (below := below) (R := ({ frames := 1, cells := 0, slots := 0, locals := 21 })) (cells := 0) (slots := 0) (As := [.int (x1 + x2)]) (rest := []) J hJ hA hZ hP hD hS hq [0, 1] rfl (by decide) gl_MD_98 gi_MD_byteAt gsel_MD_byteAt gini_MD gc_MD_byteAt hd_MD_byteAt ⟨rfl, rfl, Nat.le_of_ble_eq_true rfl, Nat.le_of_ble_eq_true rfl⟩ rfl rfl hl.1 rfl rfl (Nat.le_of_ble_eq_true rfl) d_MD_nameAt_32 ⟨Nat.zero_le _, Nat.zero_le _⟩
      clear hq
      refine jk_i hr hA hP hD hS [0, 1] [] (WR := []) rfl rfl (by decide) (by decide) [0, 1] (WF := [(n0, .inr (6, [.ref n_tape, .int ztaped, .ref n_isThere, .ref n_size, .ref n_depth, .ref n_memory, .ref n_register, .ref n_mode, .ref n_pc, .ref n_base, .ref n_bound, .ref n_timer, .ref n_ranOut, .ref n_halted, .ref n_steps, .ref n_outs, .ref n_output, .ref n_waits, .ref n_typed, .ref n_disk, .ref n_wants, .int zat, .int zend, .int zline, .ref n_labelFrom, .ref n_labelSize, .ref n_labelAddress, .int zlabels, .int zfault, .int zfaultLine, .int zisTold, .int zaddress, .ref n_made, .int zmissing, .int zgood, .int zvalue, .int zvalueFrom, .int zvalueSize, .int zme])), (n_tape, .inl (E.2.1 2, 3000, .inl ztape))]) rfl (by decide) ?_
      clear hP hD hS
      intro H locs hP hD hS
      clear hr
      replace h := g_bd h
      obtain ⟨r_5, q_5, h⟩ := h
      have hq := ct_MD_isDigit l E  H.size  r_4 r_5 q_5
      have hr := jrunS (p := p) (e := e) (below := below) (R := ({ frames := 1, cells := 0, slots := 0, locals := 21 })) (cells := 0) (slots := 0) (As := [.int r_4]) (rest := []) J hJ hA hZ hP hD hS hq [] rfl (by decide) gl_MD_106 gs_MD_isDigit gini_MD gc_MD_isDigit hd_MD_isDigit ⟨rfl, rfl, Nat.le_of_ble_eq_true rfl, Nat.le_of_ble_eq_true rfl⟩ hl.1 rfl rfl (Nat.le_of_ble_eq_true rfl) d_MD_nameAt_35 ⟨Nat.zero_le _, Nat.zero_le _⟩
      clear hq
      refine jk_i hr hA hP hD hS [] [0, 1] (WR := [(n0, .inr (6, [.ref n_tape, .int ztaped, .ref n_isThere, .ref n_size, .ref n_depth, .ref n_memory, .ref n_register, .ref n_mode, .ref n_pc, .ref n_base, .ref n_bound, .ref n_timer, .ref n_ranOut, .ref n_halted, .ref n_steps, .ref n_outs, .ref n_output, .ref n_waits, .ref n_typed, .ref n_disk, .ref n_wants, .int zat, .int zend, .int zline, .ref n_labelFrom, .ref n_labelSize, .ref n_labelAddress, .int zlabels, .int zfault, .int zfaultLine, .int zisTold, .int zaddress, .ref n_made, .int zmissing, .int zgood, .int zvalue, .int zvalueFrom, .int zvalueSize, .int zme])), (n_tape, .inl (E.2.1 2, 3000, .inl ztape))]) rfl rfl (by decide) (by decide) [0, 1] (WF := [(n0, .inr (6, [.ref n_tape, .int ztaped, .ref n_isThere, .ref n_size, .ref n_depth, .ref n_memory, .ref n_register, .ref n_mode, .ref n_pc, .ref n_base, .ref n_bound, .ref n_timer, .ref n_ranOut, .ref n_halted, .ref n_steps, .ref n_outs, .ref n_output, .ref n_waits, .ref n_typed, .ref n_disk, .ref n_wants, .int zat, .int zend, .int zline, .ref n_labelFrom, .ref n_labelSize, .ref n_labelAddress, .int zlabels, .int zfault, .int zfaultLine, .int zisTold, .int zaddress, .ref n_made, .int zmissing, .int zgood, .int zvalue, .int zvalueFrom, .int zvalueSize, .int zme])), (n_tape, .inl (E.2.1 2, 3000, .inl ztape))]) rfl (by decide) ?_
      clear hP hD hS
      intro H locs hP hD hS
      clear hr
      refine lv_if_eq (tgt := 47) J.1 J.2.1 d_MD_nameAt_38 (by decide) (fun c_6 => ?_) (fun c_6 => ?_)
      · replace h := g_t c_6 h
        refine lv_iload_n J.1 J.2.1 d_MD_nameAt_47 rfl (lv_at hl 2 rfl) ?_
        refine lv_bipush (v := 8) J.1 J.2.1 d_MD_nameAt_48 (by decide) ?_
        refine lv_icmp_le (tgt := 57) J.1 J.2.1 d_MD_nameAt_50 (by decide) (fun c_7 => ?_) (fun c_7 => ?_)
        · replace h := g_t c_7 h
          refine lv_iload_n J.1 J.2.1 d_MD_nameAt_57 rfl (lv_at hl 2 rfl) ?_
          have h := Option.some.inj h
          rw [← h]
          exact jr_i J hS hP hD rfl d_MD_nameAt_58
        · replace h := g_f c_7 h
          refine lv_iconst (v := 0) J.1 J.2.1 d_MD_nameAt_53 (by decide) ?_
          refine lv_goto (tgt := 58) J.1 J.2.1 d_MD_nameAt_54 (by decide) ?_
          have h := Option.some.inj h
          rw [← h]
          exact jr_i J hS hP hD rfl d_MD_nameAt_58
      · replace h := g_f c_6 h
        refine lv_iinc (v := (x2 + 1)) (lv' := [(2, .int (x2 + 1)), (0, .ref n0), (1, .int x1)]) J.1 J.2.1 d_MD_nameAt_41 hl (k := 2) rfl rfl (by decide) rfl ?_
        clear hl
        intro ls hl
        refine lv_goto (tgt := 15) J.1 J.2.1 d_MD_nameAt_44 (by decide) ?_
        exact ih _ _ _ _ _ _ _ _ _ _ _ _ _ _ _ _ _ _ _ _ _ h hP hD hS (lv_sub hl [1, 2, 0] rfl)
set_option maxHeartbeats 4000000 in
set_option maxRecDepth 100000 in
theorem ct_MD_nameAt (l : Launch) (E : jz_E) (n0 n_base n_bound n_depth n_disk n_halted n_isThere n_labelAddress n_labelFrom n_labelSize n_made n_memory n_mode n_output n_outs n_pc n_ranOut n_register n_size n_steps n_tape n_timer n_typed n_waits n_wants : Nat) (sz : Nat) (ztaped : Int32) (zat : Int32) (zend : Int32) (zline : Int32) (zlabels : Int32) (zfault : Int32) (zfaultLine : Int32) (zisTold : Int32) (zaddress : Int32) (zmissing : Int32) (zgood : Int32) (zvalue : Int32) (zvalueFrom : Int32) (zvalueSize : Int32) (zme : Int32) (ztape : Nat → Int32) (p1 : Int32) (o_r : Int32)  (h : f_MD_nameAt zend ztape p1 = some o_r) : CTi l E y_MD_nameAt c_MD_nameAt 3 (some .int) ({ frames := 1, cells := 0, slots := 0, locals := 21 }) [.ref n0, .int p1] [(n0, .inr (6, [.ref n_tape, .int ztaped, .ref n_isThere, .ref n_size, .ref n_depth, .ref n_memory, .ref n_register, .ref n_mode, .ref n_pc, .ref n_base, .ref n_bound, .ref n_timer, .ref n_ranOut, .ref n_halted, .ref n_steps, .ref n_outs, .ref n_output, .ref n_waits, .ref n_typed, .ref n_disk, .ref n_wants, .int zat, .int zend, .int zline, .ref n_labelFrom, .ref n_labelSize, .ref n_labelAddress, .int zlabels, .int zfault, .int zfaultLine, .int zisTold, .int zaddress, .ref n_made, .int zmissing, .int zgood, .int zvalue, .int zvalueFrom, .int zvalueSize, .int zme])), (n_tape, .inl (E.2.1 2, 3000, .inl ztape))] sz o_r [(n0, .inr (6, [.ref n_tape, .int ztaped, .ref n_isThere, .ref n_size, .ref n_depth, .ref n_memory, .ref n_register, .ref n_mode, .ref n_pc, .ref n_base, .ref n_bound, .ref n_timer, .ref n_ranOut, .ref n_halted, .ref n_steps, .ref n_outs, .ref n_output, .ref n_waits, .ref n_typed, .ref n_disk, .ref n_wants, .int zat, .int zend, .int zline, .ref n_labelFrom, .ref n_labelSize, .ref n_labelAddress, .int zlabels, .int zfault, .int zfaultLine, .int zisTold, .int zaddress, .ref n_made, .int zmissing, .int zgood, .int zvalue, .int zvalueFrom, .int zvalueSize, .int zme])), (n_tape, .inl (E.2.1 2, 3000, .inl ztape))] := by
  refine jw (by decide +kernel) (Nat.le_of_ble_eq_true rfl) ?_
  intro p e s m below meth c A ls J hJ hAe hsz hA hZ hP hD hl
  rw [← hAe]
  have hS : va_S A s.heap s.heap [] := va_S.rf
  have hl : lv_has ls 3 [(0, .ref n0), (1, .int p1)] := hl
  unfold f_MD_nameAt at h
  refine lv_aload_n J.1 J.2.1 d_MD_nameAt_0 rfl (lv_at hl 0 rfl) ?_
  refine lv_iload_n J.1 J.2.1 d_MD_nameAt_1 rfl (lv_at hl 1 rfl) ?_
  replace h := g_bd h
  obtain ⟨r_8, q_8, h⟩ := h
  have hq := ct_MD_byteAt l E n0 n_base n_bound n_depth n_disk n_halted n_isThere n_labelAddress n_labelFrom n_labelSize n_made n_memory n_mode n_output n_outs n_pc n_ranOut n_register n_size n_steps n_tape n_timer n_typed n_waits n_wants s.heap.size ztaped zat zend zline zlabels zfault zfaultLine zisTold zaddress zmissing zgood zvalue zvalueFrom zvalueSize zme ztape p1 r_8 q_8
  have hr := jrunV (p := p) (e := e) (below := below) (R := ({ frames := 1, cells := 0, slots := 0, locals := 21 })) (cells := 0) (slots := 0) (As := [.int p1]) (rest := []) J hJ hA hZ hP hD hS hq [0, 1] rfl (by decide) gl_MD_98 gi_MD_byteAt gsel_MD_byteAt gini_MD gc_MD_byteAt hd_MD_byteAt ⟨rfl, rfl, Nat.le_of_ble_eq_true rfl, Nat.le_of_ble_eq_true rfl⟩ rfl rfl hl.1 rfl rfl (Nat.le_of_ble_eq_true rfl) d_MD_nameAt_2 ⟨Nat.zero_le _, Nat.zero_le _⟩
  clear hq
  refine jk_i hr hA hP hD hS [0, 1] [] (WR := []) rfl rfl (by decide) (by decide) [0, 1] (WF := [(n0, .inr (6, [.ref n_tape, .int ztaped, .ref n_isThere, .ref n_size, .ref n_depth, .ref n_memory, .ref n_register, .ref n_mode, .ref n_pc, .ref n_base, .ref n_bound, .ref n_timer, .ref n_ranOut, .ref n_halted, .ref n_steps, .ref n_outs, .ref n_output, .ref n_waits, .ref n_typed, .ref n_disk, .ref n_wants, .int zat, .int zend, .int zline, .ref n_labelFrom, .ref n_labelSize, .ref n_labelAddress, .int zlabels, .int zfault, .int zfaultLine, .int zisTold, .int zaddress, .ref n_made, .int zmissing, .int zgood, .int zvalue, .int zvalueFrom, .int zvalueSize, .int zme])), (n_tape, .inl (E.2.1 2, 3000, .inl ztape))]) rfl (by decide) ?_
  clear hP hD hS
  intro H locs hP hD hS
  clear hr
  replace h := g_bd h
  obtain ⟨r_9, q_9, h⟩ := h
  have hq := ct_MD_isSmall l E  H.size  r_8 r_9 q_9
  have hr := jrunS (p := p) (e := e) (below := below) (R := ({ frames := 1, cells := 0, slots := 0, locals := 21 })) (cells := 0) (slots := 0) (As := [.int r_8]) (rest := []) J hJ hA hZ hP hD hS hq [] rfl (by decide) gl_MD_102 gs_MD_isSmall gini_MD gc_MD_isSmall hd_MD_isSmall ⟨rfl, rfl, Nat.le_of_ble_eq_true rfl, Nat.le_of_ble_eq_true rfl⟩ hl.1 rfl rfl (Nat.le_of_ble_eq_true rfl) d_MD_nameAt_5 ⟨Nat.zero_le _, Nat.zero_le _⟩
  clear hq
  refine jk_i hr hA hP hD hS [] [0, 1] (WR := [(n0, .inr (6, [.ref n_tape, .int ztaped, .ref n_isThere, .ref n_size, .ref n_depth, .ref n_memory, .ref n_register, .ref n_mode, .ref n_pc, .ref n_base, .ref n_bound, .ref n_timer, .ref n_ranOut, .ref n_halted, .ref n_steps, .ref n_outs, .ref n_output, .ref n_waits, .ref n_typed, .ref n_disk, .ref n_wants, .int zat, .int zend, .int zline, .ref n_labelFrom, .ref n_labelSize, .ref n_labelAddress, .int zlabels, .int zfault, .int zfaultLine, .int zisTold, .int zaddress, .ref n_made, .int zmissing, .int zgood, .int zvalue, .int zvalueFrom, .int zvalueSize, .int zme])), (n_tape, .inl (E.2.1 2, 3000, .inl ztape))]) rfl rfl (by decide) (by decide) [0, 1] (WF := [(n0, .inr (6, [.ref n_tape, .int ztaped, .ref n_isThere, .ref n_size, .ref n_depth, .ref n_memory, .ref n_register, .ref n_mode, .ref n_pc, .ref n_base, .ref n_bound, .ref n_timer, .ref n_ranOut, .ref n_halted, .ref n_steps, .ref n_outs, .ref n_output, .ref n_waits, .ref n_typed, .ref n_disk, .ref n_wants, .int zat, .int zend, .int zline, .ref n_labelFrom, .ref n_labelSize, .ref n_labelAddress, .int zlabels, .int zfault, .int zfaultLine, .int zisTold, .int zaddress, .ref n_made, .int zmissing, .int zgood, .int zvalue, .int zvalueFrom, .int zvalueSize, .int zme])), (n_tape, .inl (E.2.1 2, 3000, .inl ztape))]) rfl (by decide) ?_
  clear hP hD hS
  intro H locs hP hD hS
  clear hr
  refine lv_if_ne (tgt := 13) J.1 J.2.1 d_MD_nameAt_8 (by decide) (fun c_10 => ?_) (fun c_10 => ?_)
  · replace h := g_f c_10 h
    refine lv_iconst (v := 1) J.1 J.2.1 d_MD_nameAt_13 (by decide) ?_
    refine lv_istore_n (lv' := [(2, .int 1), (0, .ref n0), (1, .int p1)]) J.1 J.2.1 d_MD_nameAt_14 rfl hl (by decide) rfl ?_
    clear hl
    intro ls hl
    exact kb_MD_nameAt_15 J hJ hA hZ _ _ _ _ _ _ _ _ _ _ _ _ _ _ _ _ _ _ _ _ _ _ h hP hD hS (lv_sub hl [1, 2, 0] rfl)
  · replace h := g_t c_10 h
    refine lv_iconst (v := 0) J.1 J.2.1 d_MD_nameAt_11 (by decide) ?_
    have h := Option.some.inj h
    rw [← h]
    exact jr_i J hS hP hD rfl d_MD_nameAt_12

theorem hd_MD_find : y_MD_find.cls ≠ "java/lang/invoke/MethodHandle" ∧ y_MD_find.cls ≠ "java/lang/invoke/VarHandle" ∧ (parseMethodDescriptor y_MD_find.desc).map (fun d => d.parameters.length) = some 2 := by decide +kernel
def b_MD_find_30 (kx : Int32 → Int32 → Int32 → Int32 → Option (Int32)) : Nat → (Nat → Int32) → (Nat → Int32) → Int32 → Int32 → Int32 → Int32 → Int32 → Option (Int32)
  | 0, _, _, _, _, _, _, _ => none
  | n + 1, ztape, zlabelFrom, x1, x2, x3, x4, x5 => (if x2 ≤ x5 then kx x1 x2 x3 x4 else (if x4 = (0 : Int32) then kx x1 x2 x3 x4 else (if ck x3 100 then (if ck ((zlabelFrom x3.toNatClampNeg) + x5) 3000 then (if ck (x1 + x5) 3000 then (if (ztape ((zlabelFrom x3.toNatClampNeg) + x5).toNatClampNeg) = (ztape (x1 + x5).toNatClampNeg) then b_MD_find_30 kx n ztape zlabelFrom x1 x2 x3 1 (x5 + 1) else b_MD_find_30 kx n ztape zlabelFrom x1 x2 x3 0 (x5 + 1)) else none) else none) else none)))
def b_MD_find_2 : Nat → Int32 → (Nat → Int32) → (Nat → Int32) → (Nat → Int32) → Int32 → Int32 → Int32 → Option (Int32)
  | 0, _, _, _, _, _, _, _ => none
  | n + 1, zlabels, ztape, zlabelFrom, zlabelSize, x1, x2, x3 => (if zlabels ≤ x3 then (some (-1)) else (if ck x3 100 then (if (zlabelSize x3.toNatClampNeg) = x2 then b_MD_find_30 (fun x1_12 x2_12 x3_12 x4_12 => (if x4_12 = (0 : Int32) then b_MD_find_2 n zlabels ztape zlabelFrom zlabelSize x1_12 x2_12 (x3_12 + 1) else (some x3_12))) 65536 ztape zlabelFrom x1 x2 x3 1 0 else b_MD_find_30 (fun x1_10 x2_10 x3_10 x4_10 => (if x4_10 = (0 : Int32) then b_MD_find_2 n zlabels ztape zlabelFrom zlabelSize x1_10 x2_10 (x3_10 + 1) else (some x3_10))) 65536 ztape zlabelFrom x1 x2 x3 0 0) else none))
def f_MD_find (zlabels : Int32) (ztape : Nat → Int32) (zlabelFrom : Nat → Int32) (zlabelSize : Nat → Int32) (p1 : Int32) (p2 : Int32) : Option (Int32) := b_MD_find_2 65536 zlabels ztape zlabelFrom zlabelSize p1 p2 0
set_option maxHeartbeats 4000000 in
set_option maxRecDepth 100000 in
theorem kb_MD_find_30 {p : Program} {l : Launch} {e : Env} {s : State} {m : MethodId} {below : List Frame} {meth : Method} {c : Code} {A : Nat → Prop} {E : jz_E} {n0 n_base n_bound n_depth n_disk n_halted n_isThere n_labelAddress n_labelFrom n_labelSize n_made n_memory n_mode n_output n_outs n_pc n_ranOut n_register n_size n_steps n_tape n_timer n_typed n_waits n_wants : Nat} {p1 : Int32} {p2 : Int32} {o_r : Int32} (J : JC p s m ([.ref n0, .int p1, .int p2] : List Value).toArray meth c c_MD_find 6 (some .int) y_MD_find.cls) (hJ : jE E s) (hA : ∀ q : Nat, s.heap.size ≤ q → A q) (hZ : jz_ok E A s s.heap) : ∀ (ztaped : Int32) (zat : Int32) (zend : Int32) (zline : Int32) (zlabels : Int32) (zfault : Int32) (zfaultLine : Int32) (zisTold : Int32) (zaddress : Int32) (zmissing : Int32) (zgood : Int32) (zvalue : Int32) (zvalueFrom : Int32) (zvalueSize : Int32) (zme : Int32) (ztape : Nat → Int32) (zlabelFrom : Nat → Int32) (zlabelSize : Nat → Int32) (kx : Int32 → Int32 → Int32 → Int32 → Option (Int32)), (∀ (x1X : Int32) (x2X : Int32) (x3X : Int32) (x4X : Int32) (H : Heap) (locs : List Loc) (ls : Array Slot), kx x1X x2X x3X x4X = some o_r → va_P E.1 classes [(n0, .inr (6, [.ref n_tape, .int ztaped, .ref n_isThere, .ref n_size, .ref n_depth, .ref n_memory, .ref n_register, .ref n_mode, .ref n_pc, .ref n_base, .ref n_bound, .ref n_timer, .ref n_ranOut, .ref n_halted, .ref n_steps, .ref n_outs, .ref n_output, .ref n_waits, .ref n_typed, .ref n_disk, .ref n_wants, .int zat, .int zend, .int zline, .ref n_labelFrom, .ref n_labelSize, .ref n_labelAddress, .int zlabels, .int zfault, .int zfaultLine, .int zisTold, .int zaddress, .ref n_made, .int zmissing, .int zgood, .int zvalue, .int zvalueFrom, .int zvalueSize, .int zme])), (n_tape, .inl (E.2.1 2, 3000, .inl ztape)), (n_labelFrom, .inl (E.2.1 0, 100, .inl zlabelFrom)), (n_labelSize, .inl (E.2.1 0, 100, .inl zlabelSize))] H → va_D A [(n0, .inr (6, [.ref n_tape, .int ztaped, .ref n_isThere, .ref n_size, .ref n_depth, .ref n_memory, .ref n_register, .ref n_mode, .ref n_pc, .ref n_base, .ref n_bound, .ref n_timer, .ref n_ranOut, .ref n_halted, .ref n_steps, .ref n_outs, .ref n_output, .ref n_waits, .ref n_typed, .ref n_disk, .ref n_wants, .int zat, .int zend, .int zline, .ref n_labelFrom, .ref n_labelSize, .ref n_labelAddress, .int zlabels, .int zfault, .int zfaultLine, .int zisTold, .int zaddress, .ref n_made, .int zmissing, .int zgood, .int zvalue, .int zvalueFrom, .int zvalueSize, .int zme])), (n_tape, .inl (E.2.1 2, 3000, .inl ztape)), (n_labelFrom, .inl (E.2.1 0, 100, .inl zlabelFrom)), (n_labelSize, .inl (E.2.1 0, 100, .inl zlabelSize))] → va_S A s.heap H locs → lv_has ls 6 [(0, .ref n0), (1, .int x1X), (2, .int x2X), (3, .int x3X), (4, .int x4X)] → W p l e ({ frames := 0, cells := 0, slots := 0, locals := 0 }) s m ([.ref n0, .int p1, .int p2] : List Value).toArray below meth c H locs 0 0 (MQ below (va_Qi (fun (r' : Int32) (u : va_W) => r' = o_r ∧ u = [(n0, .inr (6, [.ref n_tape, .int ztaped, .ref n_isThere, .ref n_size, .ref n_depth, .ref n_memory, .ref n_register, .ref n_mode, .ref n_pc, .ref n_base, .ref n_bound, .ref n_timer, .ref n_ranOut, .ref n_halted, .ref n_steps, .ref n_outs, .ref n_output, .ref n_waits, .ref n_typed, .ref n_disk, .ref n_wants, .int zat, .int zend, .int zline, .ref n_labelFrom, .ref n_labelSize, .ref n_labelAddress, .int zlabels, .int zfault, .int zfaultLine, .int zisTold, .int zaddress, .ref n_made, .int zmissing, .int zgood, .int zvalue, .int zvalueFrom, .int zvalueSize, .int zme])), (n_tape, .inl (E.2.1 2, 3000, .inl ztape)), (n_labelFrom, .inl (E.2.1 0, 100, .inl zlabelFrom)), (n_labelSize, .inl (E.2.1 0, 100, .inl zlabelSize))]) (BW E A) A) ([.ref n0, .int p1, .int p2] : List Value).toArray s 0 0 A) (F0 m 80 ls [])) → ∀ (n : Nat) (x1 : Int32) (x2 : Int32) (x3 : Int32) (x4 : Int32) (x5 : Int32) (H : Heap) (locs : List Loc) (ls : Array Slot), b_MD_find_30 kx n ztape zlabelFrom x1 x2 x3 x4 x5 = some o_r → va_P E.1 classes [(n0, .inr (6, [.ref n_tape, .int ztaped, .ref n_isThere, .ref n_size, .ref n_depth, .ref n_memory, .ref n_register, .ref n_mode, .ref n_pc, .ref n_base, .ref n_bound, .ref n_timer, .ref n_ranOut, .ref n_halted, .ref n_steps, .ref n_outs, .ref n_output, .ref n_waits, .ref n_typed, .ref n_disk, .ref n_wants, .int zat, .int zend, .int zline, .ref n_labelFrom, .ref n_labelSize, .ref n_labelAddress, .int zlabels, .int zfault, .int zfaultLine, .int zisTold, .int zaddress, .ref n_made, .int zmissing, .int zgood, .int zvalue, .int zvalueFrom, .int zvalueSize, .int zme])), (n_tape, .inl (E.2.1 2, 3000, .inl ztape)), (n_labelFrom, .inl (E.2.1 0, 100, .inl zlabelFrom)), (n_labelSize, .inl (E.2.1 0, 100, .inl zlabelSize))] H → va_D A [(n0, .inr (6, [.ref n_tape, .int ztaped, .ref n_isThere, .ref n_size, .ref n_depth, .ref n_memory, .ref n_register, .ref n_mode, .ref n_pc, .ref n_base, .ref n_bound, .ref n_timer, .ref n_ranOut, .ref n_halted, .ref n_steps, .ref n_outs, .ref n_output, .ref n_waits, .ref n_typed, .ref n_disk, .ref n_wants, .int zat, .int zend, .int zline, .ref n_labelFrom, .ref n_labelSize, .ref n_labelAddress, .int zlabels, .int zfault, .int zfaultLine, .int zisTold, .int zaddress, .ref n_made, .int zmissing, .int zgood, .int zvalue, .int zvalueFrom, .int zvalueSize, .int zme])), (n_tape, .inl (E.2.1 2, 3000, .inl ztape)), (n_labelFrom, .inl (E.2.1 0, 100, .inl zlabelFrom)), (n_labelSize, .inl (E.2.1 0, 100, .inl zlabelSize))] → va_S A s.heap H locs → lv_has ls 6 [(0, .ref n0), (1, .int x1), (2, .int x2), (3, .int x3), (4, .int x4), (5, .int x5)] → W p l e ({ frames := 0, cells := 0, slots := 0, locals := 0 }) s m ([.ref n0, .int p1, .int p2] : List Value).toArray below meth c H locs 0 0 (MQ below (va_Qi (fun (r' : Int32) (u : va_W) => r' = o_r ∧ u = [(n0, .inr (6, [.ref n_tape, .int ztaped, .ref n_isThere, .ref n_size, .ref n_depth, .ref n_memory, .ref n_register, .ref n_mode, .ref n_pc, .ref n_base, .ref n_bound, .ref n_timer, .ref n_ranOut, .ref n_halted, .ref n_steps, .ref n_outs, .ref n_output, .ref n_waits, .ref n_typed, .ref n_disk, .ref n_wants, .int zat, .int zend, .int zline, .ref n_labelFrom, .ref n_labelSize, .ref n_labelAddress, .int zlabels, .int zfault, .int zfaultLine, .int zisTold, .int zaddress, .ref n_made, .int zmissing, .int zgood, .int zvalue, .int zvalueFrom, .int zvalueSize, .int zme])), (n_tape, .inl (E.2.1 2, 3000, .inl ztape)), (n_labelFrom, .inl (E.2.1 0, 100, .inl zlabelFrom)), (n_labelSize, .inl (E.2.1 0, 100, .inl zlabelSize))]) (BW E A) A) ([.ref n0, .int p1, .int p2] : List Value).toArray s 0 0 A) (F0 m 30 ls []) := by
  intro ztaped zat zend zline zlabels zfault zfaultLine zisTold zaddress zmissing zgood zvalue zvalueFrom zvalueSize zme ztape zlabelFrom zlabelSize kx hk n
  induction n with
  | zero => intro x1 x2 x3 x4 x5 H locs ls h; cases h
  | succ n ih =>
    intro x1 x2 x3 x4 x5 H locs ls h hP hD hS hl
    rw [b_MD_find_30] at h
    refine lv_iload J.1 J.2.1 d_MD_find_30 (lv_at hl 5 rfl) ?_
    refine lv_iload_n J.1 J.2.1 d_MD_find_32 rfl (lv_at hl 2 rfl) ?_
    refine lv_icmp_ge (tgt := 80) J.1 J.2.1 d_MD_find_33 (by decide) (fun c_1 => ?_) (fun c_1 => ?_)
    · replace h := g_t c_1 h
      exact hk _ _ _ _ _ _ _ h hP hD hS (lv_sub hl [0, 1, 2, 3, 4] rfl)
    · replace h := g_f c_1 h
      refine lv_iload J.1 J.2.1 d_MD_find_36 (lv_at hl 4 rfl) ?_
      refine lv_if_eq (tgt := 80) J.1 J.2.1 d_MD_find_38 (by decide) (fun c_2 => ?_) (fun c_2 => ?_)
      · replace h := g_t c_2 h
        exact hk _ _ _ _ _ _ _ h hP hD hS (lv_sub hl [0, 1, 2, 3, 4] rfl)
      · replace h := g_f c_2 h
        refine lv_aload_n J.1 J.2.1 d_MD_find_41 rfl (lv_at hl 0 rfl) ?_
        refine jg J hJ hP 0 rfl rfl i_MD 0 (by decide) gf_MD_11 rfl d_MD_find_42 ?_
        refine lv_aload_n J.1 J.2.1 d_MD_find_45 rfl (lv_at hl 0 rfl) ?_
        refine jg J hJ hP 0 rfl rfl i_MD 24 (by decide) gf_MD_80 rfl d_MD_find_46 ?_
        refine lv_iload_n J.1 J.2.1 d_MD_find_49 rfl (lv_at hl 3 rfl) ?_
        replace h := g_ck h
        obtain ⟨k_3, h⟩ := h
        refine jai J hJ hP 2 rfl k_3 d_MD_find_50 ?_
        refine lv_iload J.1 J.2.1 d_MD_find_51 (lv_at hl 5 rfl) ?_
        refine lv_iadd J.1 J.2.1 d_MD_find_53 ?_
        replace h := g_ck h
        obtain ⟨k_4, h⟩ := h
        refine va_bald J.1 J.2.1 hJ.1 hP 1 2 rfl rfl k_4 d_MD_find_54 ?_
        refine lv_aload_n J.1 J.2.1 d_MD_find_55 rfl (lv_at hl 0 rfl) ?_
        refine jg J hJ hP 0 rfl rfl i_MD 0 (by decide) gf_MD_11 rfl d_MD_find_56 ?_
        refine lv_iload_n J.1 J.2.1 d_MD_find_59 rfl (lv_at hl 1 rfl) ?_
        refine lv_iload J.1 J.2.1 d_MD_find_60 (lv_at hl 5 rfl) ?_
        refine lv_iadd J.1 J.2.1 d_MD_find_62 ?_
        replace h := g_ck h
        obtain ⟨k_5, h⟩ := h
        refine va_bald J.1 J.2.1 hJ.1 hP 1 2 rfl rfl k_5 d_MD_find_63 ?_
        refine lv_icmp_ne (tgt := 71) J.1 J.2.1 d_MD_find_64 (by decide) (fun c_6 => ?_) (fun c_6 => ?_)
        · replace h := g_f c_6 h
          refine lv_iconst (v := 0) J.1 J.2.1 d_MD_find_71 (by decide) ?_
          refine lv_istore (lv' := [(4, .int 0), (0, .ref n0), (1, .int x1), (2, .int x2), (3, .int x3), (5, .int x5)]) J.1 J.2.1 d_MD_find_72 hl (by decide) rfl ?_
          clear hl
          intro ls hl
          refine lv_iinc (v := (x5 + 1)) (lv' := [(5, .int (x5 + 1)), (4, .int 0), (0, .ref n0), (1, .int x1), (2, .int x2), (3, .int x3)]) J.1 J.2.1 d_MD_find_74 hl (k := 5) rfl rfl (by decide) rfl ?_
          clear hl
          intro ls hl
          refine lv_goto (tgt := 30) J.1 J.2.1 d_MD_find_77 (by decide) ?_
          exact ih _ _ _ _ _ _ _ _ h hP hD hS (lv_sub hl [2, 3, 4, 5, 1, 0] rfl)
        · replace h := g_t c_6 h
          refine lv_iconst (v := 1) J.1 J.2.1 d_MD_find_67 (by decide) ?_
          refine lv_goto (tgt := 72) J.1 J.2.1 d_MD_find_68 (by decide) ?_
          refine lv_istore (lv' := [(4, .int 1), (0, .ref n0), (1, .int x1), (2, .int x2), (3, .int x3), (5, .int x5)]) J.1 J.2.1 d_MD_find_72 hl (by decide) rfl ?_
          clear hl
          intro ls hl
          refine lv_iinc (v := (x5 + 1)) (lv' := [(5, .int (x5 + 1)), (4, .int 1), (0, .ref n0), (1, .int x1), (2, .int x2), (3, .int x3)]) J.1 J.2.1 d_MD_find_74 hl (k := 5) rfl rfl (by decide) rfl ?_
          clear hl
          intro ls hl
          refine lv_goto (tgt := 30) J.1 J.2.1 d_MD_find_77 (by decide) ?_
          exact ih _ _ _ _ _ _ _ _ h hP hD hS (lv_sub hl [2, 3, 4, 5, 1, 0] rfl)
set_option maxHeartbeats 4000000 in
set_option maxRecDepth 100000 in
theorem kb_MD_find_2 {p : Program} {l : Launch} {e : Env} {s : State} {m : MethodId} {below : List Frame} {meth : Method} {c : Code} {A : Nat → Prop} {E : jz_E} {n0 n_base n_bound n_depth n_disk n_halted n_isThere n_labelAddress n_labelFrom n_labelSize n_made n_memory n_mode n_output n_outs n_pc n_ranOut n_register n_size n_steps n_tape n_timer n_typed n_waits n_wants : Nat} {p1 : Int32} {p2 : Int32} {o_r : Int32} (J : JC p s m ([.ref n0, .int p1, .int p2] : List Value).toArray meth c c_MD_find 6 (some .int) y_MD_find.cls) (hJ : jE E s) (hA : ∀ q : Nat, s.heap.size ≤ q → A q) (hZ : jz_ok E A s s.heap) : ∀ (n : Nat) (ztaped : Int32) (zat : Int32) (zend : Int32) (zline : Int32) (zlabels : Int32) (zfault : Int32) (zfaultLine : Int32) (zisTold : Int32) (zaddress : Int32) (zmissing : Int32) (zgood : Int32) (zvalue : Int32) (zvalueFrom : Int32) (zvalueSize : Int32) (zme : Int32) (ztape : Nat → Int32) (zlabelFrom : Nat → Int32) (zlabelSize : Nat → Int32) (x1 : Int32) (x2 : Int32) (x3 : Int32) (H : Heap) (locs : List Loc) (ls : Array Slot), b_MD_find_2 n zlabels ztape zlabelFrom zlabelSize x1 x2 x3 = some o_r → va_P E.1 classes [(n0, .inr (6, [.ref n_tape, .int ztaped, .ref n_isThere, .ref n_size, .ref n_depth, .ref n_memory, .ref n_register, .ref n_mode, .ref n_pc, .ref n_base, .ref n_bound, .ref n_timer, .ref n_ranOut, .ref n_halted, .ref n_steps, .ref n_outs, .ref n_output, .ref n_waits, .ref n_typed, .ref n_disk, .ref n_wants, .int zat, .int zend, .int zline, .ref n_labelFrom, .ref n_labelSize, .ref n_labelAddress, .int zlabels, .int zfault, .int zfaultLine, .int zisTold, .int zaddress, .ref n_made, .int zmissing, .int zgood, .int zvalue, .int zvalueFrom, .int zvalueSize, .int zme])), (n_tape, .inl (E.2.1 2, 3000, .inl ztape)), (n_labelFrom, .inl (E.2.1 0, 100, .inl zlabelFrom)), (n_labelSize, .inl (E.2.1 0, 100, .inl zlabelSize))] H → va_D A [(n0, .inr (6, [.ref n_tape, .int ztaped, .ref n_isThere, .ref n_size, .ref n_depth, .ref n_memory, .ref n_register, .ref n_mode, .ref n_pc, .ref n_base, .ref n_bound, .ref n_timer, .ref n_ranOut, .ref n_halted, .ref n_steps, .ref n_outs, .ref n_output, .ref n_waits, .ref n_typed, .ref n_disk, .ref n_wants, .int zat, .int zend, .int zline, .ref n_labelFrom, .ref n_labelSize, .ref n_labelAddress, .int zlabels, .int zfault, .int zfaultLine, .int zisTold, .int zaddress, .ref n_made, .int zmissing, .int zgood, .int zvalue, .int zvalueFrom, .int zvalueSize, .int zme])), (n_tape, .inl (E.2.1 2, 3000, .inl ztape)), (n_labelFrom, .inl (E.2.1 0, 100, .inl zlabelFrom)), (n_labelSize, .inl (E.2.1 0, 100, .inl zlabelSize))] → va_S A s.heap H locs → lv_has ls 6 [(0, .ref n0), (1, .int x1), (2, .int x2), (3, .int x3)] → W p l e ({ frames := 0, cells := 0, slots := 0, locals := 0 }) s m ([.ref n0, .int p1, .int p2] : List Value).toArray below meth c H locs 0 0 (MQ below (va_Qi (fun (r' : Int32) (u : va_W) => r' = o_r ∧ u = [(n0, .inr (6, [.ref n_tape, .int ztaped, .ref n_isThere, .ref n_size, .ref n_depth, .ref n_memory, .ref n_register, .ref n_mode, .ref n_pc, .ref n_base, .ref n_bound, .ref n_timer, .ref n_ranOut, .ref n_halted, .ref n_steps, .ref n_outs, .ref n_output, .ref n_waits, .ref n_typed, .ref n_disk, .ref n_wants, .int zat, .int zend, .int zline, .ref n_labelFrom, .ref n_labelSize, .ref n_labelAddress, .int zlabels, .int zfault, .int zfaultLine, .int zisTold, .int zaddress, .ref n_made, .int zmissing, .int zgood, .int zvalue, .int zvalueFrom, .int zvalueSize, .int zme])), (n_tape, .inl (E.2.1 2, 3000, .inl ztape)), (n_labelFrom, .inl (E.2.1 0, 100, .inl zlabelFrom)), (n_labelSize, .inl (E.2.1 0, 100, .inl zlabelSize))]) (BW E A) A) ([.ref n0, .int p1, .int p2] : List Value).toArray s 0 0 A) (F0 m 2 ls []) := by
  intro n
  induction n with
  | zero => intro ztaped zat zend zline zlabels zfault zfaultLine zisTold zaddress zmissing zgood zvalue zvalueFrom zvalueSize zme ztape zlabelFrom zlabelSize x1 x2 x3 H locs ls h; cases h
  | succ n ih =>
    intro ztaped zat zend zline zlabels zfault zfaultLine zisTold zaddress zmissing zgood zvalue zvalueFrom zvalueSize zme ztape zlabelFrom zlabelSize x1 x2 x3 H locs ls h hP hD hS hl
    rw [b_MD_find_2] at h
    refine lv_iload_n J.1 J.2.1 d_MD_find_2 rfl (lv_at hl 3 rfl) ?_
    refine lv_aload_n J.1 J.2.1 d_MD_find_3 rfl (lv_at hl 0 rfl) ?_
    refine jg J hJ hP 0 rfl rfl i_MD 27 (by decide) gf_MD_109 rfl d_MD_find_4 ?_
    refine lv_icmp_ge (tgt := 93) J.1 J.2.1 d_MD_find_7 (by decide) (fun c_7 => ?_) (fun c_7 => ?_)
    · replace h := g_t c_7 h
      refine lv_iconst (v := (-1)) J.1 J.2.1 d_MD_find_93 (by decide) ?_
      have h := Option.some.inj h
      rw [← h]
      exact jr_i J hS hP hD rfl d_MD_find_94
    · replace h := g_f c_7 h
      refine lv_aload_n J.1 J.2.1 d_MD_find_10 rfl (lv_at hl 0 rfl) ?_
      refine jg J hJ hP 0 rfl rfl i_MD 25 (by decide) gf_MD_83 rfl d_MD_find_11 ?_
      refine lv_iload_n J.1 J.2.1 d_MD_find_14 rfl (lv_at hl 3 rfl) ?_
      replace h := g_ck h
      obtain ⟨k_8, h⟩ := h
      refine jai J hJ hP 3 rfl k_8 d_MD_find_15 ?_
      refine lv_iload_n J.1 J.2.1 d_MD_find_16 rfl (lv_at hl 2 rfl) ?_
      refine lv_icmp_ne (tgt := 24) J.1 J.2.1 d_MD_find_17 (by decide) (fun c_9 => ?_) (fun c_9 => ?_)
      · replace h := g_f c_9 h
        refine lv_iconst (v := 0) J.1 J.2.1 d_MD_find_24 (by decide) ?_
        refine lv_istore (lv' := [(4, .int 0), (0, .ref n0), (1, .int x1), (2, .int x2), (3, .int x3)]) J.1 J.2.1 d_MD_find_25 hl (by decide) rfl ?_
        clear hl
        intro ls hl
        refine lv_iconst (v := 0) J.1 J.2.1 d_MD_find_27 (by decide) ?_
        refine lv_istore (lv' := [(5, .int 0), (4, .int 0), (0, .ref n0), (1, .int x1), (2, .int x2), (3, .int x3)]) J.1 J.2.1 d_MD_find_28 hl (by decide) rfl ?_
        clear hl
        intro ls hl
        refine kb_MD_find_30 J hJ hA hZ _ _ _ _ _ _ _ _ _ _ _ _ _ _ _ _ _ _ _ (fun x1_10 x2_10 x3_10 x4_10 H locs ls h hP hD hS hl => ?_) _ _ _ _ _ _ _ _ _ h hP hD hS (lv_sub hl [2, 3, 4, 5, 1, 0] rfl)
        refine lv_iload J.1 J.2.1 d_MD_find_80 (lv_at hl 4 rfl) ?_
        refine lv_if_eq (tgt := 87) J.1 J.2.1 d_MD_find_82 (by decide) (fun c_11 => ?_) (fun c_11 => ?_)
        · replace h := g_t c_11 h
          refine lv_iinc (v := (x3_10 + 1)) (lv' := [(3, .int (x3_10 + 1)), (0, .ref n0), (1, .int x1_10), (2, .int x2_10), (4, .int x4_10)]) J.1 J.2.1 d_MD_find_87 hl (k := 3) rfl rfl (by decide) rfl ?_
          clear hl
          intro ls hl
          refine lv_goto (tgt := 2) J.1 J.2.1 d_MD_find_90 (by decide) ?_
          exact ih _ _ _ _ _ _ _ _ _ _ _ _ _ _ _ _ _ _ _ _ _ _ _ _ h hP hD hS (lv_sub hl [1, 2, 3, 0] rfl)
        · replace h := g_f c_11 h
          refine lv_iload_n J.1 J.2.1 d_MD_find_85 rfl (lv_at hl 3 rfl) ?_
          have h := Option.some.inj h
          rw [← h]
          exact jr_i J hS hP hD rfl d_MD_find_86
      · replace h := g_t c_9 h
        refine lv_iconst (v := 1) J.1 J.2.1 d_MD_find_20 (by decide) ?_
        refine lv_goto (tgt := 25) J.1 J.2.1 d_MD_find_21 (by decide) ?_
        refine lv_istore (lv' := [(4, .int 1), (0, .ref n0), (1, .int x1), (2, .int x2), (3, .int x3)]) J.1 J.2.1 d_MD_find_25 hl (by decide) rfl ?_
        clear hl
        intro ls hl
        refine lv_iconst (v := 0) J.1 J.2.1 d_MD_find_27 (by decide) ?_
        refine lv_istore (lv' := [(5, .int 0), (4, .int 1), (0, .ref n0), (1, .int x1), (2, .int x2), (3, .int x3)]) J.1 J.2.1 d_MD_find_28 hl (by decide) rfl ?_
        clear hl
        intro ls hl
        refine kb_MD_find_30 J hJ hA hZ _ _ _ _ _ _ _ _ _ _ _ _ _ _ _ _ _ _ _ (fun x1_12 x2_12 x3_12 x4_12 H locs ls h hP hD hS hl => ?_) _ _ _ _ _ _ _ _ _ h hP hD hS (lv_sub hl [2, 3, 4, 5, 1, 0] rfl)
        refine lv_iload J.1 J.2.1 d_MD_find_80 (lv_at hl 4 rfl) ?_
        refine lv_if_eq (tgt := 87) J.1 J.2.1 d_MD_find_82 (by decide) (fun c_13 => ?_) (fun c_13 => ?_)
        · replace h := g_t c_13 h
          refine lv_iinc (v := (x3_12 + 1)) (lv' := [(3, .int (x3_12 + 1)), (0, .ref n0), (1, .int x1_12), (2, .int x2_12), (4, .int x4_12)]) J.1 J.2.1 d_MD_find_87 hl (k := 3) rfl rfl (by decide) rfl ?_
          clear hl
          intro ls hl
          refine lv_goto (tgt := 2) J.1 J.2.1 d_MD_find_90 (by decide) ?_
          exact ih _ _ _ _ _ _ _ _ _ _ _ _ _ _ _ _ _ _ _ _ _ _ _ _ h hP hD hS (lv_sub hl [1, 2, 3, 0] rfl)
        · replace h := g_f c_13 h
          refine lv_iload_n J.1 J.2.1 d_MD_find_85 rfl (lv_at hl 3 rfl) ?_
          have h := Option.some.inj h
          rw [← h]
          exact jr_i J hS hP hD rfl d_MD_find_86
set_option maxHeartbeats 4000000 in
set_option maxRecDepth 100000 in
theorem ct_MD_find (l : Launch) (E : jz_E) (n0 n_base n_bound n_depth n_disk n_halted n_isThere n_labelAddress n_labelFrom n_labelSize n_made n_memory n_mode n_output n_outs n_pc n_ranOut n_register n_size n_steps n_tape n_timer n_typed n_waits n_wants : Nat) (sz : Nat) (ztaped : Int32) (zat : Int32) (zend : Int32) (zline : Int32) (zlabels : Int32) (zfault : Int32) (zfaultLine : Int32) (zisTold : Int32) (zaddress : Int32) (zmissing : Int32) (zgood : Int32) (zvalue : Int32) (zvalueFrom : Int32) (zvalueSize : Int32) (zme : Int32) (ztape : Nat → Int32) (zlabelFrom : Nat → Int32) (zlabelSize : Nat → Int32) (p1 : Int32) (p2 : Int32) (o_r : Int32)  (h : f_MD_find zlabels ztape zlabelFrom zlabelSize p1 p2 = some o_r) : CTi l E y_MD_find c_MD_find 6 (some .int) ({ frames := 0, cells := 0, slots := 0, locals := 0 }) [.ref n0, .int p1, .int p2] [(n0, .inr (6, [.ref n_tape, .int ztaped, .ref n_isThere, .ref n_size, .ref n_depth, .ref n_memory, .ref n_register, .ref n_mode, .ref n_pc, .ref n_base, .ref n_bound, .ref n_timer, .ref n_ranOut, .ref n_halted, .ref n_steps, .ref n_outs, .ref n_output, .ref n_waits, .ref n_typed, .ref n_disk, .ref n_wants, .int zat, .int zend, .int zline, .ref n_labelFrom, .ref n_labelSize, .ref n_labelAddress, .int zlabels, .int zfault, .int zfaultLine, .int zisTold, .int zaddress, .ref n_made, .int zmissing, .int zgood, .int zvalue, .int zvalueFrom, .int zvalueSize, .int zme])), (n_tape, .inl (E.2.1 2, 3000, .inl ztape)), (n_labelFrom, .inl (E.2.1 0, 100, .inl zlabelFrom)), (n_labelSize, .inl (E.2.1 0, 100, .inl zlabelSize))] sz o_r [(n0, .inr (6, [.ref n_tape, .int ztaped, .ref n_isThere, .ref n_size, .ref n_depth, .ref n_memory, .ref n_register, .ref n_mode, .ref n_pc, .ref n_base, .ref n_bound, .ref n_timer, .ref n_ranOut, .ref n_halted, .ref n_steps, .ref n_outs, .ref n_output, .ref n_waits, .ref n_typed, .ref n_disk, .ref n_wants, .int zat, .int zend, .int zline, .ref n_labelFrom, .ref n_labelSize, .ref n_labelAddress, .int zlabels, .int zfault, .int zfaultLine, .int zisTold, .int zaddress, .ref n_made, .int zmissing, .int zgood, .int zvalue, .int zvalueFrom, .int zvalueSize, .int zme])), (n_tape, .inl (E.2.1 2, 3000, .inl ztape)), (n_labelFrom, .inl (E.2.1 0, 100, .inl zlabelFrom)), (n_labelSize, .inl (E.2.1 0, 100, .inl zlabelSize))] := by
  refine jw (by decide +kernel) (Nat.le_of_ble_eq_true rfl) ?_
  intro p e s m below meth c A ls J hJ hAe hsz hA hZ hP hD hl
  rw [← hAe]
  have hS : va_S A s.heap s.heap [] := va_S.rf
  have hl : lv_has ls 6 [(0, .ref n0), (1, .int p1), (2, .int p2)] := hl
  unfold f_MD_find at h
  refine lv_iconst (v := 0) J.1 J.2.1 d_MD_find_0 (by decide) ?_
  refine lv_istore_n (lv' := [(3, .int 0), (0, .ref n0), (1, .int p1), (2, .int p2)]) J.1 J.2.1 d_MD_find_1 rfl hl (by decide) rfl ?_
  clear hl
  intro ls hl
  exact kb_MD_find_2 J hJ hA hZ _ _ _ _ _ _ _ _ _ _ _ _ _ _ _ _ _ _ _ _ _ _ _ _ _ h hP hD hS (lv_sub hl [1, 2, 3, 0] rfl)

theorem hd_MD_name : y_MD_name.cls ≠ "java/lang/invoke/MethodHandle" ∧ y_MD_name.cls ≠ "java/lang/invoke/VarHandle" ∧ (parseMethodDescriptor y_MD_name.desc).map (fun d => d.parameters.length) = some 1 := by decide +kernel
def f_MD_name (p0 : Int32) : Option (Int64) := (if (p0) = 0 then (some 1212238932) else (if (p0) = 1 then (some 5457236) else (if (p0) = 2 then (some 1280262468) else (if (p0) = 3 then (some 357896770117) else (if (p0) = 4 then (some 327747191896) else (if (p0) = 5 then (some 91621573150040) else (if (p0) = 6 then (some 1297045061) else (if (p0) = 7 then (some 4277316) else (if (p0) = 8 then (some 5461314) else (if (p0) = 9 then (some 4279876) else (if (p0) = 10 then (some 1279611731) else (if (p0) = 11 then (some 357695047252) else (if (p0) = 12 then (some 1247104336) else (if (p0) = 13 then (some 1514492495) else (if (p0) = 14 then (some 18255) else (if (p0) = 15 then (some 1128352844) else (if (p0) = 16 then (some 5461571) else (if (p0) = 17 then (some 1280332631) else (if (p0) = 18 then (some 1397773143) else (if (p0) = 19 then (some 1397052500) else (if (p0) = 20 then (some 1195725908) else (if (p0) = 21 then (some 18766) else (if (p0) = 22 then (some 5199188) else (if (p0) = 23 then (some 1195725890) else (if (p0) = 24 then (some 1347769410) else (if (p0) = 25 then (some 1464816196) else (if (p0) = 26 then (some 357828739909) else (some 16724))))))))))))))))))))))))))))
set_option maxHeartbeats 4000000 in
set_option maxRecDepth 100000 in
theorem ct_MD_name (l : Launch) (E : jz_E)  (sz : Nat) (p0 : Int32) (o_r : Int64)  (h : f_MD_name p0 = some o_r) : CTl l E y_MD_name c_MD_name 1 (some .long) ({ frames := 0, cells := 0, slots := 0, locals := 0 }) [.int p0] [] sz o_r [] := by
  refine jw (by decide +kernel) (Nat.le_of_ble_eq_true rfl) ?_
  intro p e s m below meth c A ls J hJ hAe hsz hA hZ hP hD hl
  rw [← hAe]
  have hS : va_S A s.heap s.heap [] := va_S.rf
  have hl : lv_has ls 1 [(0, .int p0)] := hl
  unfold f_MD_name at h
  refine lv_iload_n J.1 J.2.1 d_MD_name_0 rfl (lv_at hl 0 rfl) ?_
  by_cases c_1 : (p0) = 0
  · replace h := g_t c_1 h
    refine lv_tableIn (off := 123) (tgt := 124) J.1 J.2.1 d_MD_name_1 (by rw [c_1]; decide) (by rw [c_1]; decide) (by rw [c_1]; rfl) (by decide) ?_
    refine lv_ldc2 (v := 1212238932) J.1 J.2.1 J.2.2.2.2.1 (J.2.2.2.2.2.1 _ gkl_MD_121) d_MD_name_124 ?_
    have h := Option.some.inj h
    rw [← h]
    exact jr_l J hS hP hD d_MD_name_127
  replace h := g_f c_1 h
  by_cases c_2 : (p0) = 1
  · replace h := g_t c_2 h
    refine lv_tableIn (off := 127) (tgt := 128) J.1 J.2.1 d_MD_name_1 (by rw [c_2]; decide) (by rw [c_2]; decide) (by rw [c_2]; rfl) (by decide) ?_
    refine lv_ldc2 (v := 5457236) J.1 J.2.1 J.2.2.2.2.1 (J.2.2.2.2.2.1 _ gkl_MD_123) d_MD_name_128 ?_
    have h := Option.some.inj h
    rw [← h]
    exact jr_l J hS hP hD d_MD_name_131
  replace h := g_f c_2 h
  by_cases c_3 : (p0) = 2
  · replace h := g_t c_3 h
    refine lv_tableIn (off := 131) (tgt := 132) J.1 J.2.1 d_MD_name_1 (by rw [c_3]; decide) (by rw [c_3]; decide) (by rw [c_3]; rfl) (by decide) ?_
    refine lv_ldc2 (v := 1280262468) J.1 J.2.1 J.2.2.2.2.1 (J.2.2.2.2.2.1 _ gkl_MD_125) d_MD_name_132 ?_
    have h := Option.some.inj h
    rw [← h]
    exact jr_l J hS hP hD d_MD_name_135
  replace h := g_f c_3 h
  by_cases c_4 : (p0) = 3
  · replace h := g_t c_4 h
    refine lv_tableIn (off := 135) (tgt := 136) J.1 J.2.1 d_MD_name_1 (by rw [c_4]; decide) (by rw [c_4]; decide) (by rw [c_4]; rfl) (by decide) ?_
    refine lv_ldc2 (v := 357896770117) J.1 J.2.1 J.2.2.2.2.1 (J.2.2.2.2.2.1 _ gkl_MD_127) d_MD_name_136 ?_
    have h := Option.some.inj h
    rw [← h]
    exact jr_l J hS hP hD d_MD_name_139
  replace h := g_f c_4 h
  by_cases c_5 : (p0) = 4
  · replace h := g_t c_5 h
    refine lv_tableIn (off := 139) (tgt := 140) J.1 J.2.1 d_MD_name_1 (by rw [c_5]; decide) (by rw [c_5]; decide) (by rw [c_5]; rfl) (by decide) ?_
    refine lv_ldc2 (v := 327747191896) J.1 J.2.1 J.2.2.2.2.1 (J.2.2.2.2.2.1 _ gkl_MD_129) d_MD_name_140 ?_
    have h := Option.some.inj h
    rw [← h]
    exact jr_l J hS hP hD d_MD_name_143
  replace h := g_f c_5 h
  by_cases c_6 : (p0) = 5
  · replace h := g_t c_6 h
    refine lv_tableIn (off := 143) (tgt := 144) J.1 J.2.1 d_MD_name_1 (by rw [c_6]; decide) (by rw [c_6]; decide) (by rw [c_6]; rfl) (by decide) ?_
    refine lv_ldc2 (v := 91621573150040) J.1 J.2.1 J.2.2.2.2.1 (J.2.2.2.2.2.1 _ gkl_MD_131) d_MD_name_144 ?_
    have h := Option.some.inj h
    rw [← h]
    exact jr_l J hS hP hD d_MD_name_147
  replace h := g_f c_6 h
  by_cases c_7 : (p0) = 6
  · replace h := g_t c_7 h
    refine lv_tableIn (off := 147) (tgt := 148) J.1 J.2.1 d_MD_name_1 (by rw [c_7]; decide) (by rw [c_7]; decide) (by rw [c_7]; rfl) (by decide) ?_
    refine lv_ldc2 (v := 1297045061) J.1 J.2.1 J.2.2.2.2.1 (J.2.2.2.2.2.1 _ gkl_MD_133) d_MD_name_148 ?_
    have h := Option.some.inj h
    rw [← h]
    exact jr_l J hS hP hD d_MD_name_151
  replace h := g_f c_7 h
  by_cases c_8 : (p0) = 7
  · replace h := g_t c_8 h
    refine lv_tableIn (off := 151) (tgt := 152) J.1 J.2.1 d_MD_name_1 (by rw [c_8]; decide) (by rw [c_8]; decide) (by rw [c_8]; rfl) (by decide) ?_
    refine lv_ldc2 (v := 4277316) J.1 J.2.1 J.2.2.2.2.1 (J.2.2.2.2.2.1 _ gkl_MD_135) d_MD_name_152 ?_
    have h := Option.some.inj h
    rw [← h]
    exact jr_l J hS hP hD d_MD_name_155
  replace h := g_f c_8 h
  by_cases c_9 : (p0) = 8
  · replace h := g_t c_9 h
    refine lv_tableIn (off := 155) (tgt := 156) J.1 J.2.1 d_MD_name_1 (by rw [c_9]; decide) (by rw [c_9]; decide) (by rw [c_9]; rfl) (by decide) ?_
    refine lv_ldc2 (v := 5461314) J.1 J.2.1 J.2.2.2.2.1 (J.2.2.2.2.2.1 _ gkl_MD_137) d_MD_name_156 ?_
    have h := Option.some.inj h
    rw [← h]
    exact jr_l J hS hP hD d_MD_name_159
  replace h := g_f c_9 h
  by_cases c_10 : (p0) = 9
  · replace h := g_t c_10 h
    refine lv_tableIn (off := 159) (tgt := 160) J.1 J.2.1 d_MD_name_1 (by rw [c_10]; decide) (by rw [c_10]; decide) (by rw [c_10]; rfl) (by decide) ?_
    refine lv_ldc2 (v := 4279876) J.1 J.2.1 J.2.2.2.2.1 (J.2.2.2.2.2.1 _ gkl_MD_139) d_MD_name_160 ?_
    have h := Option.some.inj h
    rw [← h]
    exact jr_l J hS hP hD d_MD_name_163
  replace h := g_f c_10 h
  by_cases c_11 : (p0) = 10
  · replace h := g_t c_11 h
    refine lv_tableIn (off := 163) (tgt := 164) J.1 J.2.1 d_MD_name_1 (by rw [c_11]; decide) (by rw [c_11]; decide) (by rw [c_11]; rfl) (by decide) ?_
    refine lv_ldc2 (v := 1279611731) J.1 J.2.1 J.2.2.2.2.1 (J.2.2.2.2.2.1 _ gkl_MD_141) d_MD_name_164 ?_
    have h := Option.some.inj h
    rw [← h]
    exact jr_l J hS hP hD d_MD_name_167
  replace h := g_f c_11 h
  by_cases c_12 : (p0) = 11
  · replace h := g_t c_12 h
    refine lv_tableIn (off := 167) (tgt := 168) J.1 J.2.1 d_MD_name_1 (by rw [c_12]; decide) (by rw [c_12]; decide) (by rw [c_12]; rfl) (by decide) ?_
    refine lv_ldc2 (v := 357695047252) J.1 J.2.1 J.2.2.2.2.1 (J.2.2.2.2.2.1 _ gkl_MD_143) d_MD_name_168 ?_
    have h := Option.some.inj h
    rw [← h]
    exact jr_l J hS hP hD d_MD_name_171
  replace h := g_f c_12 h
  by_cases c_13 : (p0) = 12
  · replace h := g_t c_13 h
    refine lv_tableIn (off := 171) (tgt := 172) J.1 J.2.1 d_MD_name_1 (by rw [c_13]; decide) (by rw [c_13]; decide) (by rw [c_13]; rfl) (by decide) ?_
    refine lv_ldc2 (v := 1247104336) J.1 J.2.1 J.2.2.2.2.1 (J.2.2.2.2.2.1 _ gkl_MD_145) d_MD_name_172 ?_
    have h := Option.some.inj h
    rw [← h]
    exact jr_l J hS hP hD d_MD_name_175
  replace h := g_f c_13 h
  by_cases c_14 : (p0) = 13
  · replace h := g_t c_14 h
    refine lv_tableIn (off := 175) (tgt := 176) J.1 J.2.1 d_MD_name_1 (by rw [c_14]; decide) (by rw [c_14]; decide) (by rw [c_14]; rfl) (by decide) ?_
    refine lv_ldc2 (v := 1514492495) J.1 J.2.1 J.2.2.2.2.1 (J.2.2.2.2.2.1 _ gkl_MD_147) d_MD_name_176 ?_
    have h := Option.some.inj h
    rw [← h]
    exact jr_l J hS hP hD d_MD_name_179
  replace h := g_f c_14 h
  by_cases c_15 : (p0) = 14
  · replace h := g_t c_15 h
    refine lv_tableIn (off := 179) (tgt := 180) J.1 J.2.1 d_MD_name_1 (by rw [c_15]; decide) (by rw [c_15]; decide) (by rw [c_15]; rfl) (by decide) ?_
    refine lv_ldc2 (v := 18255) J.1 J.2.1 J.2.2.2.2.1 (J.2.2.2.2.2.1 _ gkl_MD_149) d_MD_name_180 ?_
    have h := Option.some.inj h
    rw [← h]
    exact jr_l J hS hP hD d_MD_name_183
  replace h := g_f c_15 h
  by_cases c_16 : (p0) = 15
  · replace h := g_t c_16 h
    refine lv_tableIn (off := 183) (tgt := 184) J.1 J.2.1 d_MD_name_1 (by rw [c_16]; decide) (by rw [c_16]; decide) (by rw [c_16]; rfl) (by decide) ?_
    refine lv_ldc2 (v := 1128352844) J.1 J.2.1 J.2.2.2.2.1 (J.2.2.2.2.2.1 _ gkl_MD_151) d_MD_name_184 ?_
    have h := Option.some.inj h
    rw [← h]
    exact jr_l J hS hP hD d_MD_name_187
  replace h := g_f c_16 h
  by_cases c_17 : (p0) = 16
  · replace h := g_t c_17 h
    refine lv_tableIn (off := 187) (tgt := 188) J.1 J.2.1 d_MD_name_1 (by rw [c_17]; decide) (by rw [c_17]; decide) (by rw [c_17]; rfl) (by decide) ?_
    refine lv_ldc2 (v := 5461571) J.1 J.2.1 J.2.2.2.2.1 (J.2.2.2.2.2.1 _ gkl_MD_153) d_MD_name_188 ?_
    have h := Option.some.inj h
    rw [← h]
    exact jr_l J hS hP hD d_MD_name_191
  replace h := g_f c_17 h
  by_cases c_18 : (p0) = 17
  · replace h := g_t c_18 h
    refine lv_tableIn (off := 191) (tgt := 192) J.1 J.2.1 d_MD_name_1 (by rw [c_18]; decide) (by rw [c_18]; decide) (by rw [c_18]; rfl) (by decide) ?_
    refine lv_ldc2 (v := 1280332631) J.1 J.2.1 J.2.2.2.2.1 (J.2.2.2.2.2.1 _ gkl_MD_155) d_MD_name_192 ?_
    have h := Option.some.inj h
    rw [← h]
    exact jr_l J hS hP hD d_MD_name_195
  replace h := g_f c_18 h
  by_cases c_19 : (p0) = 18
  · replace h := g_t c_19 h
    refine lv_tableIn (off := 195) (tgt := 196) J.1 J.2.1 d_MD_name_1 (by rw [c_19]; decide) (by rw [c_19]; decide) (by rw [c_19]; rfl) (by decide) ?_
    refine lv_ldc2 (v := 1397773143) J.1 J.2.1 J.2.2.2.2.1 (J.2.2.2.2.2.1 _ gkl_MD_157) d_MD_name_196 ?_
    have h := Option.some.inj h
    rw [← h]
    exact jr_l J hS hP hD d_MD_name_199
  replace h := g_f c_19 h
  by_cases c_20 : (p0) = 19
  · replace h := g_t c_20 h
    refine lv_tableIn (off := 199) (tgt := 200) J.1 J.2.1 d_MD_name_1 (by rw [c_20]; decide) (by rw [c_20]; decide) (by rw [c_20]; rfl) (by decide) ?_
    refine lv_ldc2 (v := 1397052500) J.1 J.2.1 J.2.2.2.2.1 (J.2.2.2.2.2.1 _ gkl_MD_159) d_MD_name_200 ?_
    have h := Option.some.inj h
    rw [← h]
    exact jr_l J hS hP hD d_MD_name_203
  replace h := g_f c_20 h
  by_cases c_21 : (p0) = 20
  · replace h := g_t c_21 h
    refine lv_tableIn (off := 203) (tgt := 204) J.1 J.2.1 d_MD_name_1 (by rw [c_21]; decide) (by rw [c_21]; decide) (by rw [c_21]; rfl) (by decide) ?_
    refine lv_ldc2 (v := 1195725908) J.1 J.2.1 J.2.2.2.2.1 (J.2.2.2.2.2.1 _ gkl_MD_161) d_MD_name_204 ?_
    have h := Option.some.inj h
    rw [← h]
    exact jr_l J hS hP hD d_MD_name_207
  replace h := g_f c_21 h
  by_cases c_22 : (p0) = 21
  · replace h := g_t c_22 h
    refine lv_tableIn (off := 207) (tgt := 208) J.1 J.2.1 d_MD_name_1 (by rw [c_22]; decide) (by rw [c_22]; decide) (by rw [c_22]; rfl) (by decide) ?_
    refine lv_ldc2 (v := 18766) J.1 J.2.1 J.2.2.2.2.1 (J.2.2.2.2.2.1 _ gkl_MD_163) d_MD_name_208 ?_
    have h := Option.some.inj h
    rw [← h]
    exact jr_l J hS hP hD d_MD_name_211
  replace h := g_f c_22 h
  by_cases c_23 : (p0) = 22
  · replace h := g_t c_23 h
    refine lv_tableIn (off := 211) (tgt := 212) J.1 J.2.1 d_MD_name_1 (by rw [c_23]; decide) (by rw [c_23]; decide) (by rw [c_23]; rfl) (by decide) ?_
    refine lv_ldc2 (v := 5199188) J.1 J.2.1 J.2.2.2.2.1 (J.2.2.2.2.2.1 _ gkl_MD_165) d_MD_name_212 ?_
    have h := Option.some.inj h
    rw [← h]
    exact jr_l J hS hP hD d_MD_name_215
  replace h := g_f c_23 h
  by_cases c_24 : (p0) = 23
  · replace h := g_t c_24 h
    refine lv_tableIn (off := 215) (tgt := 216) J.1 J.2.1 d_MD_name_1 (by rw [c_24]; decide) (by rw [c_24]; decide) (by rw [c_24]; rfl) (by decide) ?_
    refine lv_ldc2 (v := 1195725890) J.1 J.2.1 J.2.2.2.2.1 (J.2.2.2.2.2.1 _ gkl_MD_167) d_MD_name_216 ?_
    have h := Option.some.inj h
    rw [← h]
    exact jr_l J hS hP hD d_MD_name_219
  replace h := g_f c_24 h
  by_cases c_25 : (p0) = 24
  · replace h := g_t c_25 h
    refine lv_tableIn (off := 219) (tgt := 220) J.1 J.2.1 d_MD_name_1 (by rw [c_25]; decide) (by rw [c_25]; decide) (by rw [c_25]; rfl) (by decide) ?_
    refine lv_ldc2 (v := 1347769410) J.1 J.2.1 J.2.2.2.2.1 (J.2.2.2.2.2.1 _ gkl_MD_169) d_MD_name_220 ?_
    have h := Option.some.inj h
    rw [← h]
    exact jr_l J hS hP hD d_MD_name_223
  replace h := g_f c_25 h
  by_cases c_26 : (p0) = 25
  · replace h := g_t c_26 h
    refine lv_tableIn (off := 223) (tgt := 224) J.1 J.2.1 d_MD_name_1 (by rw [c_26]; decide) (by rw [c_26]; decide) (by rw [c_26]; rfl) (by decide) ?_
    refine lv_ldc2 (v := 1464816196) J.1 J.2.1 J.2.2.2.2.1 (J.2.2.2.2.2.1 _ gkl_MD_171) d_MD_name_224 ?_
    have h := Option.some.inj h
    rw [← h]
    exact jr_l J hS hP hD d_MD_name_227
  replace h := g_f c_26 h
  by_cases c_27 : (p0) = 26
  · replace h := g_t c_27 h
    refine lv_tableIn (off := 227) (tgt := 228) J.1 J.2.1 d_MD_name_1 (by rw [c_27]; decide) (by rw [c_27]; decide) (by rw [c_27]; rfl) (by decide) ?_
    refine lv_ldc2 (v := 357828739909) J.1 J.2.1 J.2.2.2.2.1 (J.2.2.2.2.2.1 _ gkl_MD_173) d_MD_name_228 ?_
    have h := Option.some.inj h
    rw [← h]
    exact jr_l J hS hP hD d_MD_name_231
  replace h := g_f c_27 h
  refine lv_tableOut (tgt := 232) J.1 J.2.1 d_MD_name_1 (by have e0 := lv_neT c_1 (a := 0) (by decide); have e1 := lv_neT c_2 (a := 1) (by decide); have e2 := lv_neT c_3 (a := 2) (by decide); have e3 := lv_neT c_4 (a := 3) (by decide); have e4 := lv_neT c_5 (a := 4) (by decide); have e5 := lv_neT c_6 (a := 5) (by decide); have e6 := lv_neT c_7 (a := 6) (by decide); have e7 := lv_neT c_8 (a := 7) (by decide); have e8 := lv_neT c_9 (a := 8) (by decide); have e9 := lv_neT c_10 (a := 9) (by decide); have e10 := lv_neT c_11 (a := 10) (by decide); have e11 := lv_neT c_12 (a := 11) (by decide); have e12 := lv_neT c_13 (a := 12) (by decide); have e13 := lv_neT c_14 (a := 13) (by decide); have e14 := lv_neT c_15 (a := 14) (by decide); have e15 := lv_neT c_16 (a := 15) (by decide); have e16 := lv_neT c_17 (a := 16) (by decide); have e17 := lv_neT c_18 (a := 17) (by decide); have e18 := lv_neT c_19 (a := 18) (by decide); have e19 := lv_neT c_20 (a := 19) (by decide); have e20 := lv_neT c_21 (a := 20) (by decide); have e21 := lv_neT c_22 (a := 21) (by decide); have e22 := lv_neT c_23 (a := 22) (by decide); have e23 := lv_neT c_24 (a := 23) (by decide); have e24 := lv_neT c_25 (a := 24) (by decide); have e25 := lv_neT c_26 (a := 25) (by decide); have e26 := lv_neT c_27 (a := 26) (by decide); omega) (by decide) ?_
  refine lv_ldc2 (v := 16724) J.1 J.2.1 J.2.2.2.2.1 (J.2.2.2.2.2.1 _ gkl_MD_175) d_MD_name_232 ?_
  have h := Option.some.inj h
  rw [← h]
  exact jr_l J hS hP hD d_MD_name_235

theorem hd_MD_order : y_MD_order.cls ≠ "java/lang/invoke/MethodHandle" ∧ y_MD_order.cls ≠ "java/lang/invoke/VarHandle" ∧ (parseMethodDescriptor y_MD_order.desc).map (fun d => d.parameters.length) = some 0 := by decide +kernel
def b_MD_order_63 (kx : Int32 → Int32 → Int32 → Int32 → Int32 → Option (Int32 × Int32)) : Nat → (Nat → Int32) → Int32 → Int32 → Int32 → Int64 → Int32 → Int32 → Int32 → Option (Int32 × Int32)
  | 0, _, _, _, _, _, _, _, _ => none
  | n + 1, ztape, x1, x2, x3, x4, x6, x7, x8 => (if x8 < (0 : Int32) then kx x1 x2 x3 x6 x7 else (if x6 = (0 : Int32) then kx x1 x2 x3 x6 x7 else (if ((x4 >>> (x8.toInt64 &&& 63)) &&& 255).toInt32 = (0 : Int32) then b_MD_order_63 kx n ztape x1 x2 x3 x4 x6 x7 (x8 + (-8)) else (if x2 ≤ x7 then b_MD_order_63 kx n ztape x1 x2 x3 x4 0 (x7 + 1) (x8 + (-8)) else (if ck (x1 + x7) 3000 then (if (ztape (x1 + x7).toNatClampNeg) = ((x4 >>> (x8.toInt64 &&& 63)) &&& 255).toInt32 then b_MD_order_63 kx n ztape x1 x2 x3 x4 1 (x7 + 1) (x8 + (-8)) else b_MD_order_63 kx n ztape x1 x2 x3 x4 0 (x7 + 1) (x8 + (-8))) else none)))))
def b_MD_order_41 : Nat → Int32 → (Nat → Int32) → Int32 → Int32 → Int32 → Option (Int32 × Int32)
  | 0, _, _, _, _, _ => none
  | n + 1, zat, ztape, x1, x2, x3 => (if (28 : Int32) ≤ x3 then (some ((-1), zat)) else ((f_MD_name  x3).bind fun r_8 => b_MD_order_63 (fun x1_9 x2_9 x3_9 x6_9 x7_9 => (if x6_9 = (0 : Int32) then b_MD_order_41 n zat ztape x1_9 x2_9 (x3_9 + 1) else (if x7_9 = x2_9 then (some (x3_9, zat)) else b_MD_order_41 n zat ztape x1_9 x2_9 (x3_9 + 1)))) 65536 ztape x1 x2 x3 r_8 1 0 40))
def b_MD_order_5 : Nat → Int32 → Int32 → (Nat → Int32) → Int32 → Option (Int32 × Int32)
  | 0, _, _, _, _ => none
  | n + 1, zat, zend, ztape, x1 => ((f_MD_byteAt zend ztape zat).bind fun r_12 => ((f_MD_isGreat  r_12).bind fun r_13 => (if r_13 = (0 : Int32) then b_MD_order_41 65536 zat ztape x1 (zat - x1) 0 else b_MD_order_5 n (zat + 1) zend ztape x1)))
def f_MD_order (zat : Int32) (zend : Int32) (ztape : Nat → Int32) : Option (Int32 × Int32) := b_MD_order_5 65536 zat zend ztape zat
set_option maxHeartbeats 4000000 in
set_option maxRecDepth 100000 in
theorem kb_MD_order_63 {p : Program} {l : Launch} {e : Env} {s : State} {m : MethodId} {below : List Frame} {meth : Method} {c : Code} {A : Nat → Prop} {E : jz_E} {n0 n_base n_bound n_depth n_disk n_halted n_isThere n_labelAddress n_labelFrom n_labelSize n_made n_memory n_mode n_output n_outs n_pc n_ranOut n_register n_size n_steps n_tape n_timer n_typed n_waits n_wants : Nat} {o_r : Int32} {o_zat : Int32} (J : JC p s m ([.ref n0] : List Value).toArray meth c c_MD_order 10 (some .int) y_MD_order.cls) (hJ : jE E s) (hA : ∀ q : Nat, s.heap.size ≤ q → A q) (hZ : jz_ok E A s s.heap) : ∀ (ztaped : Int32) (zat : Int32) (zend : Int32) (zline : Int32) (zlabels : Int32) (zfault : Int32) (zfaultLine : Int32) (zisTold : Int32) (zaddress : Int32) (zmissing : Int32) (zgood : Int32) (zvalue : Int32) (zvalueFrom : Int32) (zvalueSize : Int32) (zme : Int32) (ztape : Nat → Int32) (kx : Int32 → Int32 → Int32 → Int32 → Int32 → Option (Int32 × Int32)), (∀ (x1X : Int32) (x2X : Int32) (x3X : Int32) (x6X : Int32) (x7X : Int32) (H : Heap) (locs : List Loc) (ls : Array Slot), kx x1X x2X x3X x6X x7X = some (o_r, o_zat) → va_P E.1 classes [(n0, .inr (6, [.ref n_tape, .int ztaped, .ref n_isThere, .ref n_size, .ref n_depth, .ref n_memory, .ref n_register, .ref n_mode, .ref n_pc, .ref n_base, .ref n_bound, .ref n_timer, .ref n_ranOut, .ref n_halted, .ref n_steps, .ref n_outs, .ref n_output, .ref n_waits, .ref n_typed, .ref n_disk, .ref n_wants, .int zat, .int zend, .int zline, .ref n_labelFrom, .ref n_labelSize, .ref n_labelAddress, .int zlabels, .int zfault, .int zfaultLine, .int zisTold, .int zaddress, .ref n_made, .int zmissing, .int zgood, .int zvalue, .int zvalueFrom, .int zvalueSize, .int zme])), (n_tape, .inl (E.2.1 2, 3000, .inl ztape))] H → va_D A [(n0, .inr (6, [.ref n_tape, .int ztaped, .ref n_isThere, .ref n_size, .ref n_depth, .ref n_memory, .ref n_register, .ref n_mode, .ref n_pc, .ref n_base, .ref n_bound, .ref n_timer, .ref n_ranOut, .ref n_halted, .ref n_steps, .ref n_outs, .ref n_output, .ref n_waits, .ref n_typed, .ref n_disk, .ref n_wants, .int zat, .int zend, .int zline, .ref n_labelFrom, .ref n_labelSize, .ref n_labelAddress, .int zlabels, .int zfault, .int zfaultLine, .int zisTold, .int zaddress, .ref n_made, .int zmissing, .int zgood, .int zvalue, .int zvalueFrom, .int zvalueSize, .int zme])), (n_tape, .inl (E.2.1 2, 3000, .inl ztape))] → va_S A s.heap H locs → lv_has ls 10 [(0, .ref n0), (1, .int x1X), (2, .int x2X), (3, .int x3X), (6, .int x6X), (7, .int x7X)] → W p l e ({ frames := 1, cells := 0, slots := 0, locals := 21 }) s m ([.ref n0] : List Value).toArray below meth c H locs 0 0 (MQ below (va_Qi (fun (r' : Int32) (u : va_W) => r' = o_r ∧ u = [(n0, .inr (6, [.ref n_tape, .int ztaped, .ref n_isThere, .ref n_size, .ref n_depth, .ref n_memory, .ref n_register, .ref n_mode, .ref n_pc, .ref n_base, .ref n_bound, .ref n_timer, .ref n_ranOut, .ref n_halted, .ref n_steps, .ref n_outs, .ref n_output, .ref n_waits, .ref n_typed, .ref n_disk, .ref n_wants, .int o_zat, .int zend, .int zline, .ref n_labelFrom, .ref n_labelSize, .ref n_labelAddress, .int zlabels, .int zfault, .int zfaultLine, .int zisTold, .int zaddress, .ref n_made, .int zmissing, .int zgood, .int zvalue, .int zvalueFrom, .int zvalueSize, .int zme])), (n_tape, .inl (E.2.1 2, 3000, .inl ztape))]) (BW E A) A) ([.ref n0] : List Value).toArray s 0 0 A) (F0 m 129 ls [])) → ∀ (n : Nat) (x1 : Int32) (x2 : Int32) (x3 : Int32) (x4 : Int64) (x6 : Int32) (x7 : Int32) (x8 : Int32) (H : Heap) (locs : List Loc) (ls : Array Slot), b_MD_order_63 kx n ztape x1 x2 x3 x4 x6 x7 x8 = some (o_r, o_zat) → va_P E.1 classes [(n0, .inr (6, [.ref n_tape, .int ztaped, .ref n_isThere, .ref n_size, .ref n_depth, .ref n_memory, .ref n_register, .ref n_mode, .ref n_pc, .ref n_base, .ref n_bound, .ref n_timer, .ref n_ranOut, .ref n_halted, .ref n_steps, .ref n_outs, .ref n_output, .ref n_waits, .ref n_typed, .ref n_disk, .ref n_wants, .int zat, .int zend, .int zline, .ref n_labelFrom, .ref n_labelSize, .ref n_labelAddress, .int zlabels, .int zfault, .int zfaultLine, .int zisTold, .int zaddress, .ref n_made, .int zmissing, .int zgood, .int zvalue, .int zvalueFrom, .int zvalueSize, .int zme])), (n_tape, .inl (E.2.1 2, 3000, .inl ztape))] H → va_D A [(n0, .inr (6, [.ref n_tape, .int ztaped, .ref n_isThere, .ref n_size, .ref n_depth, .ref n_memory, .ref n_register, .ref n_mode, .ref n_pc, .ref n_base, .ref n_bound, .ref n_timer, .ref n_ranOut, .ref n_halted, .ref n_steps, .ref n_outs, .ref n_output, .ref n_waits, .ref n_typed, .ref n_disk, .ref n_wants, .int zat, .int zend, .int zline, .ref n_labelFrom, .ref n_labelSize, .ref n_labelAddress, .int zlabels, .int zfault, .int zfaultLine, .int zisTold, .int zaddress, .ref n_made, .int zmissing, .int zgood, .int zvalue, .int zvalueFrom, .int zvalueSize, .int zme])), (n_tape, .inl (E.2.1 2, 3000, .inl ztape))] → va_S A s.heap H locs → lv_has ls 10 [(0, .ref n0), (1, .int x1), (2, .int x2), (3, .int x3), (4, .long x4), (6, .int x6), (7, .int x7), (8, .int x8)] → W p l e ({ frames := 1, cells := 0, slots := 0, locals := 21 }) s m ([.ref n0] : List Value).toArray below meth c H locs 0 0 (MQ below (va_Qi (fun (r' : Int32) (u : va_W) => r' = o_r ∧ u = [(n0, .inr (6, [.ref n_tape, .int ztaped, .ref n_isThere, .ref n_size, .ref n_depth, .ref n_memory, .ref n_register, .ref n_mode, .ref n_pc, .ref n_base, .ref n_bound, .ref n_timer, .ref n_ranOut, .ref n_halted, .ref n_steps, .ref n_outs, .ref n_output, .ref n_waits, .ref n_typed, .ref n_disk, .ref n_wants, .int o_zat, .int zend, .int zline, .ref n_labelFrom, .ref n_labelSize, .ref n_labelAddress, .int zlabels, .int zfault, .int zfaultLine, .int zisTold, .int zaddress, .ref n_made, .int zmissing, .int zgood, .int zvalue, .int zvalueFrom, .int zvalueSize, .int zme])), (n_tape, .inl (E.2.1 2, 3000, .inl ztape))]) (BW E A) A) ([.ref n0] : List Value).toArray s 0 0 A) (F0 m 63 ls []) := by
  intro ztaped zat zend zline zlabels zfault zfaultLine zisTold zaddress zmissing zgood zvalue zvalueFrom zvalueSize zme ztape kx hk n
  induction n with
  | zero => intro x1 x2 x3 x4 x6 x7 x8 H locs ls h; cases h
  | succ n ih =>
    intro x1 x2 x3 x4 x6 x7 x8 H locs ls h hP hD hS hl
    rw [b_MD_order_63] at h
    refine lv_iload J.1 J.2.1 d_MD_order_63 (lv_at hl 7 rfl) ?_
    refine lv_if_lt (tgt := 129) J.1 J.2.1 d_MD_order_65 (by decide) (fun c_1 => ?_) (fun c_1 => ?_)
    · replace h := g_t c_1 h
      exact hk _ _ _ _ _ _ _ _ h hP hD hS (lv_sub hl [0, 1, 2, 3, 5, 6] rfl)
    · replace h := g_f c_1 h
      refine lv_iload J.1 J.2.1 d_MD_order_68 (lv_at hl 5 rfl) ?_
      refine lv_if_eq (tgt := 129) J.1 J.2.1 d_MD_order_70 (by decide) (fun c_2 => ?_) (fun c_2 => ?_)
      · replace h := g_t c_2 h
        exact hk _ _ _ _ _ _ _ _ h hP hD hS (lv_sub hl [0, 1, 2, 3, 5, 6] rfl)
      · replace h := g_f c_2 h
        refine lv_lload J.1 J.2.1 d_MD_order_73 (lv_at hl 4 rfl) ?_
        refine lv_iload J.1 J.2.1 d_MD_order_75 (lv_at hl 7 rfl) ?_
        refine lv_lshr J.1 J.2.1 d_MD_order_77 rfl ?_
        refine lv_ldc2 (v := 255) J.1 J.2.1 J.2.2.2.2.1 (J.2.2.2.2.2.1 _ gkl_MD_119) d_MD_order_78 ?_
        refine lv_land J.1 J.2.1 d_MD_order_81 ?_
        refine lv_l2i J.1 J.2.1 d_MD_order_82 rfl ?_
        refine lv_istore (lv' := [(9, .int (((x4 >>> (x8.toInt64 &&& 63)) &&& 255).toInt32)), (0, .ref n0), (1, .int x1), (2, .int x2), (3, .int x3), (4, .long x4), (6, .int x6), (7, .int x7), (8, .int x8)]) J.1 J.2.1 d_MD_order_83 hl (by decide) rfl ?_
        clear hl
        intro ls hl
        refine lv_iload J.1 J.2.1 d_MD_order_85 (lv_at hl 0 rfl) ?_
        refine lv_if_ne (tgt := 93) J.1 J.2.1 d_MD_order_87 (by decide) (fun c_3 => ?_) (fun c_3 => ?_)
        · replace h := g_f c_3 h
          refine lv_iload J.1 J.2.1 d_MD_order_93 (lv_at hl 7 rfl) ?_
          refine lv_iload_n J.1 J.2.1 d_MD_order_95 rfl (lv_at hl 3 rfl) ?_
          refine lv_icmp_ge (tgt := 117) J.1 J.2.1 d_MD_order_96 (by decide) (fun c_4 => ?_) (fun c_4 => ?_)
          · replace h := g_t c_4 h
            refine lv_iconst (v := 0) J.1 J.2.1 d_MD_order_117 (by decide) ?_
            refine lv_istore (lv' := [(6, .int 0), (9, .int (((x4 >>> (x8.toInt64 &&& 63)) &&& 255).toInt32)), (0, .ref n0), (1, .int x1), (2, .int x2), (3, .int x3), (4, .long x4), (7, .int x7), (8, .int x8)]) J.1 J.2.1 d_MD_order_118 hl (by decide) rfl ?_
            clear hl
            intro ls hl
            refine lv_iinc (v := (x7 + 1)) (lv' := [(7, .int (x7 + 1)), (6, .int 0), (9, .int (((x4 >>> (x8.toInt64 &&& 63)) &&& 255).toInt32)), (0, .ref n0), (1, .int x1), (2, .int x2), (3, .int x3), (4, .long x4), (8, .int x8)]) J.1 J.2.1 d_MD_order_120 hl (k := 7) rfl rfl (by decide) rfl ?_
            clear hl
            intro ls hl
            refine lv_iinc (v := (x8 + (-8))) (lv' := [(8, .int (x8 + (-8))), (7, .int (x7 + 1)), (6, .int 0), (9, .int (((x4 >>> (x8.toInt64 &&& 63)) &&& 255).toInt32)), (0, .ref n0), (1, .int x1), (2, .int x2), (3, .int x3), (4, .long x4)]) J.1 J.2.1 d_MD_order_123 hl (k := 8) rfl rfl (by decide) rfl ?_
            clear hl
            intro ls hl
            refine lv_goto (tgt := 63) J.1 J.2.1 d_MD_order_126 (by decide) ?_
            exact ih _ _ _ _ _ _ _ _ _ _ h hP hD hS (lv_sub hl [4, 5, 6, 7, 8, 2, 1, 0] rfl)
          · replace h := g_f c_4 h
            refine lv_aload_n J.1 J.2.1 d_MD_order_99 rfl (lv_at hl 1 rfl) ?_
            refine jg J hJ hP 0 rfl rfl i_MD 0 (by decide) gf_MD_11 rfl d_MD_order_100 ?_
            refine lv_iload_n J.1 J.2.1 d_MD_order_103 rfl (lv_at hl 2 rfl) ?_
            refine lv_iload J.1 J.2.1 d_MD_order_104 (lv_at hl 7 rfl) ?_
            refine lv_iadd J.1 J.2.1 d_MD_order_106 ?_
            replace h := g_ck h
            obtain ⟨k_5, h⟩ := h
            refine va_bald J.1 J.2.1 hJ.1 hP 1 2 rfl rfl k_5 d_MD_order_107 ?_
            refine lv_iload J.1 J.2.1 d_MD_order_108 (lv_at hl 0 rfl) ?_
            refine lv_icmp_ne (tgt := 117) J.1 J.2.1 d_MD_order_110 (by decide) (fun c_6 => ?_) (fun c_6 => ?_)
            · replace h := g_f c_6 h
              refine lv_iconst (v := 0) J.1 J.2.1 d_MD_order_117 (by decide) ?_
              refine lv_istore (lv' := [(6, .int 0), (9, .int (((x4 >>> (x8.toInt64 &&& 63)) &&& 255).toInt32)), (0, .ref n0), (1, .int x1), (2, .int x2), (3, .int x3), (4, .long x4), (7, .int x7), (8, .int x8)]) J.1 J.2.1 d_MD_order_118 hl (by decide) rfl ?_
              clear hl
              intro ls hl
              refine lv_iinc (v := (x7 + 1)) (lv' := [(7, .int (x7 + 1)), (6, .int 0), (9, .int (((x4 >>> (x8.toInt64 &&& 63)) &&& 255).toInt32)), (0, .ref n0), (1, .int x1), (2, .int x2), (3, .int x3), (4, .long x4), (8, .int x8)]) J.1 J.2.1 d_MD_order_120 hl (k := 7) rfl rfl (by decide) rfl ?_
              clear hl
              intro ls hl
              refine lv_iinc (v := (x8 + (-8))) (lv' := [(8, .int (x8 + (-8))), (7, .int (x7 + 1)), (6, .int 0), (9, .int (((x4 >>> (x8.toInt64 &&& 63)) &&& 255).toInt32)), (0, .ref n0), (1, .int x1), (2, .int x2), (3, .int x3), (4, .long x4)]) J.1 J.2.1 d_MD_order_123 hl (k := 8) rfl rfl (by decide) rfl ?_
              clear hl
              intro ls hl
              refine lv_goto (tgt := 63) J.1 J.2.1 d_MD_order_126 (by decide) ?_
              exact ih _ _ _ _ _ _ _ _ _ _ h hP hD hS (lv_sub hl [4, 5, 6, 7, 8, 2, 1, 0] rfl)
            · replace h := g_t c_6 h
              refine lv_iconst (v := 1) J.1 J.2.1 d_MD_order_113 (by decide) ?_
              refine lv_goto (tgt := 118) J.1 J.2.1 d_MD_order_114 (by decide) ?_
              refine lv_istore (lv' := [(6, .int 1), (9, .int (((x4 >>> (x8.toInt64 &&& 63)) &&& 255).toInt32)), (0, .ref n0), (1, .int x1), (2, .int x2), (3, .int x3), (4, .long x4), (7, .int x7), (8, .int x8)]) J.1 J.2.1 d_MD_order_118 hl (by decide) rfl ?_
              clear hl
              intro ls hl
              refine lv_iinc (v := (x7 + 1)) (lv' := [(7, .int (x7 + 1)), (6, .int 1), (9, .int (((x4 >>> (x8.toInt64 &&& 63)) &&& 255).toInt32)), (0, .ref n0), (1, .int x1), (2, .int x2), (3, .int x3), (4, .long x4), (8, .int x8)]) J.1 J.2.1 d_MD_order_120 hl (k := 7) rfl rfl (by decide) rfl ?_
              clear hl
              intro ls hl
              refine lv_iinc (v := (x8 + (-8))) (lv' := [(8, .int (x8 + (-8))), (7, .int (x7 + 1)), (6, .int 1), (9, .int (((x4 >>> (x8.toInt64 &&& 63)) &&& 255).toInt32)), (0, .ref n0), (1, .int x1), (2, .int x2), (3, .int x3), (4, .long x4)]) J.1 J.2.1 d_MD_order_123 hl (k := 8) rfl rfl (by decide) rfl ?_
              clear hl
              intro ls hl
              refine lv_goto (tgt := 63) J.1 J.2.1 d_MD_order_126 (by decide) ?_
              exact ih _ _ _ _ _ _ _ _ _ _ h hP hD hS (lv_sub hl [4, 5, 6, 7, 8, 2, 1, 0] rfl)
        · replace h := g_t c_3 h
          refine lv_goto (tgt := 123) J.1 J.2.1 d_MD_order_90 (by decide) ?_
          refine lv_iinc (v := (x8 + (-8))) (lv' := [(8, .int (x8 + (-8))), (9, .int (((x4 >>> (x8.toInt64 &&& 63)) &&& 255).toInt32)), (0, .ref n0), (1, .int x1), (2, .int x2), (3, .int x3), (4, .long x4), (6, .int x6), (7, .int x7)]) J.1 J.2.1 d_MD_order_123 hl (k := 8) rfl rfl (by decide) rfl ?_
          clear hl
          intro ls hl
          refine lv_goto (tgt := 63) J.1 J.2.1 d_MD_order_126 (by decide) ?_
          exact ih _ _ _ _ _ _ _ _ _ _ h hP hD hS (lv_sub hl [2, 3, 4, 5, 6, 7, 8, 0] rfl)
set_option maxHeartbeats 4000000 in
set_option maxRecDepth 100000 in
theorem kb_MD_order_41 {p : Program} {l : Launch} {e : Env} {s : State} {m : MethodId} {below : List Frame} {meth : Method} {c : Code} {A : Nat → Prop} {E : jz_E} {n0 n_base n_bound n_depth n_disk n_halted n_isThere n_labelAddress n_labelFrom n_labelSize n_made n_memory n_mode n_output n_outs n_pc n_ranOut n_register n_size n_steps n_tape n_timer n_typed n_waits n_wants : Nat} {o_r : Int32} {o_zat : Int32} (J : JC p s m ([.ref n0] : List Value).toArray meth c c_MD_order 10 (some .int) y_MD_order.cls) (hJ : jE E s) (hA : ∀ q : Nat, s.heap.size ≤ q → A q) (hZ : jz_ok E A s s.heap) : ∀ (n : Nat) (ztaped : Int32) (zat : Int32) (zend : Int32) (zline : Int32) (zlabels : Int32) (zfault : Int32) (zfaultLine : Int32) (zisTold : Int32) (zaddress : Int32) (zmissing : Int32) (zgood : Int32) (zvalue : Int32) (zvalueFrom : Int32) (zvalueSize : Int32) (zme : Int32) (ztape : Nat → Int32) (x1 : Int32) (x2 : Int32) (x3 : Int32) (H : Heap) (locs : List Loc) (ls : Array Slot), b_MD_order_41 n zat ztape x1 x2 x3 = some (o_r, o_zat) → va_P E.1 classes [(n0, .inr (6, [.ref n_tape, .int ztaped, .ref n_isThere, .ref n_size, .ref n_depth, .ref n_memory, .ref n_register, .ref n_mode, .ref n_pc, .ref n_base, .ref n_bound, .ref n_timer, .ref n_ranOut, .ref n_halted, .ref n_steps, .ref n_outs, .ref n_output, .ref n_waits, .ref n_typed, .ref n_disk, .ref n_wants, .int zat, .int zend, .int zline, .ref n_labelFrom, .ref n_labelSize, .ref n_labelAddress, .int zlabels, .int zfault, .int zfaultLine, .int zisTold, .int zaddress, .ref n_made, .int zmissing, .int zgood, .int zvalue, .int zvalueFrom, .int zvalueSize, .int zme])), (n_tape, .inl (E.2.1 2, 3000, .inl ztape))] H → va_D A [(n0, .inr (6, [.ref n_tape, .int ztaped, .ref n_isThere, .ref n_size, .ref n_depth, .ref n_memory, .ref n_register, .ref n_mode, .ref n_pc, .ref n_base, .ref n_bound, .ref n_timer, .ref n_ranOut, .ref n_halted, .ref n_steps, .ref n_outs, .ref n_output, .ref n_waits, .ref n_typed, .ref n_disk, .ref n_wants, .int zat, .int zend, .int zline, .ref n_labelFrom, .ref n_labelSize, .ref n_labelAddress, .int zlabels, .int zfault, .int zfaultLine, .int zisTold, .int zaddress, .ref n_made, .int zmissing, .int zgood, .int zvalue, .int zvalueFrom, .int zvalueSize, .int zme])), (n_tape, .inl (E.2.1 2, 3000, .inl ztape))] → va_S A s.heap H locs → lv_has ls 10 [(0, .ref n0), (1, .int x1), (2, .int x2), (3, .int x3)] → W p l e ({ frames := 1, cells := 0, slots := 0, locals := 21 }) s m ([.ref n0] : List Value).toArray below meth c H locs 0 0 (MQ below (va_Qi (fun (r' : Int32) (u : va_W) => r' = o_r ∧ u = [(n0, .inr (6, [.ref n_tape, .int ztaped, .ref n_isThere, .ref n_size, .ref n_depth, .ref n_memory, .ref n_register, .ref n_mode, .ref n_pc, .ref n_base, .ref n_bound, .ref n_timer, .ref n_ranOut, .ref n_halted, .ref n_steps, .ref n_outs, .ref n_output, .ref n_waits, .ref n_typed, .ref n_disk, .ref n_wants, .int o_zat, .int zend, .int zline, .ref n_labelFrom, .ref n_labelSize, .ref n_labelAddress, .int zlabels, .int zfault, .int zfaultLine, .int zisTold, .int zaddress, .ref n_made, .int zmissing, .int zgood, .int zvalue, .int zvalueFrom, .int zvalueSize, .int zme])), (n_tape, .inl (E.2.1 2, 3000, .inl ztape))]) (BW E A) A) ([.ref n0] : List Value).toArray s 0 0 A) (F0 m 41 ls []) := by
  intro n
  induction n with
  | zero => intro ztaped zat zend zline zlabels zfault zfaultLine zisTold zaddress zmissing zgood zvalue zvalueFrom zvalueSize zme ztape x1 x2 x3 H locs ls h; cases h
  | succ n ih =>
    intro ztaped zat zend zline zlabels zfault zfaultLine zisTold zaddress zmissing zgood zvalue zvalueFrom zvalueSize zme ztape x1 x2 x3 H locs ls h hP hD hS hl
    rw [b_MD_order_41] at h
    refine lv_iload_n J.1 J.2.1 d_MD_order_41 rfl (lv_at hl 3 rfl) ?_
    refine lv_bipush (v := 28) J.1 J.2.1 d_MD_order_42 (by decide) ?_
    refine lv_icmp_ge (tgt := 148) J.1 J.2.1 d_MD_order_44 (by decide) (fun c_7 => ?_) (fun c_7 => ?_)
    · replace h := g_t c_7 h
      refine lv_iconst (v := (-1)) J.1 J.2.1 d_MD_order_148 (by decide) ?_
      have h := Option.some.inj h
      have e_0 := (Prod.mk.inj h).1
      have h := (Prod.mk.inj h).2
      rw [← e_0, ← h]
      exact jr_i J hS hP hD rfl d_MD_order_149
    · replace h := g_f c_7 h
      refine lv_iload_n J.1 J.2.1 d_MD_order_47 rfl (lv_at hl 3 rfl) ?_
      replace h := g_bd h
      obtain ⟨r_8, q_8, h⟩ := h
      have hq := ct_MD_name l E  H.size  x3 r_8 q_8
      have hr := jrunS (p := p) (e := e) (below := below) (R := ({ frames := 1, cells := 0, slots := 0, locals := 21 })) (cells := 0) (slots := 0) (As := [.int x3]) (rest := []) J hJ hA hZ hP hD hS hq [] rfl (by decide) gl_MD_115 gs_MD_name gini_MD gc_MD_name hd_MD_name ⟨rfl, rfl, Nat.le_of_ble_eq_true rfl, Nat.le_of_ble_eq_true rfl⟩ hl.1 rfl rfl (Nat.le_of_ble_eq_true rfl) d_MD_order_48 ⟨Nat.zero_le _, Nat.zero_le _⟩
      clear hq
      refine jk_l hr hA hP hD hS [] [0, 1] (WR := [(n0, .inr (6, [.ref n_tape, .int ztaped, .ref n_isThere, .ref n_size, .ref n_depth, .ref n_memory, .ref n_register, .ref n_mode, .ref n_pc, .ref n_base, .ref n_bound, .ref n_timer, .ref n_ranOut, .ref n_halted, .ref n_steps, .ref n_outs, .ref n_output, .ref n_waits, .ref n_typed, .ref n_disk, .ref n_wants, .int zat, .int zend, .int zline, .ref n_labelFrom, .ref n_labelSize, .ref n_labelAddress, .int zlabels, .int zfault, .int zfaultLine, .int zisTold, .int zaddress, .ref n_made, .int zmissing, .int zgood, .int zvalue, .int zvalueFrom, .int zvalueSize, .int zme])), (n_tape, .inl (E.2.1 2, 3000, .inl ztape))]) rfl rfl (by decide) (by decide) [0, 1] (WF := [(n0, .inr (6, [.ref n_tape, .int ztaped, .ref n_isThere, .ref n_size, .ref n_depth, .ref n_memory, .ref n_register, .ref n_mode, .ref n_pc, .ref n_base, .ref n_bound, .ref n_timer, .ref n_ranOut, .ref n_halted, .ref n_steps, .ref n_outs, .ref n_output, .ref n_waits, .ref n_typed, .ref n_disk, .ref n_wants, .int zat, .int zend, .int zline, .ref n_labelFrom, .ref n_labelSize, .ref n_labelAddress, .int zlabels, .int zfault, .int zfaultLine, .int zisTold, .int zaddress, .ref n_made, .int zmissing, .int zgood, .int zvalue, .int zvalueFrom, .int zvalueSize, .int zme])), (n_tape, .inl (E.2.1 2, 3000, .inl ztape))]) rfl (by decide) ?_
      clear hP hD hS
      intro H locs hP hD hS
      clear hr
      refine lv_lstore (lv' := [(4, .long r_8), (0, .ref n0), (1, .int x1), (2, .int x2), (3, .int x3)]) J.1 J.2.1 d_MD_order_51 hl (by decide) rfl ?_
      clear hl
      intro ls hl
      refine lv_iconst (v := 1) J.1 J.2.1 d_MD_order_53 (by decide) ?_
      refine lv_istore (lv' := [(6, .int 1), (4, .long r_8), (0, .ref n0), (1, .int x1), (2, .int x2), (3, .int x3)]) J.1 J.2.1 d_MD_order_54 hl (by decide) rfl ?_
      clear hl
      intro ls hl
      refine lv_iconst (v := 0) J.1 J.2.1 d_MD_order_56 (by decide) ?_
      refine lv_istore (lv' := [(7, .int 0), (6, .int 1), (4, .long r_8), (0, .ref n0), (1, .int x1), (2, .int x2), (3, .int x3)]) J.1 J.2.1 d_MD_order_57 hl (by decide) rfl ?_
      clear hl
      intro ls hl
      refine lv_bipush (v := 40) J.1 J.2.1 d_MD_order_59 (by decide) ?_
      refine lv_istore (lv' := [(8, .int 40), (7, .int 0), (6, .int 1), (4, .long r_8), (0, .ref n0), (1, .int x1), (2, .int x2), (3, .int x3)]) J.1 J.2.1 d_MD_order_61 hl (by decide) rfl ?_
      clear hl
      intro ls hl
      refine kb_MD_order_63 J hJ hA hZ _ _ _ _ _ _ _ _ _ _ _ _ _ _ _ _ _ (fun x1_9 x2_9 x3_9 x6_9 x7_9 H locs ls h hP hD hS hl => ?_) _ _ _ _ _ _ _ _ _ _ _ h hP hD hS (lv_sub hl [4, 5, 6, 7, 3, 2, 1, 0] rfl)
      refine lv_iload J.1 J.2.1 d_MD_order_129 (lv_at hl 4 rfl) ?_
      refine lv_if_eq (tgt := 142) J.1 J.2.1 d_MD_order_131 (by decide) (fun c_10 => ?_) (fun c_10 => ?_)
      · replace h := g_t c_10 h
        refine lv_iinc (v := (x3_9 + 1)) (lv' := [(3, .int (x3_9 + 1)), (0, .ref n0), (1, .int x1_9), (2, .int x2_9), (6, .int x6_9), (7, .int x7_9)]) J.1 J.2.1 d_MD_order_142 hl (k := 3) rfl rfl (by decide) rfl ?_
        clear hl
        intro ls hl
        refine lv_goto (tgt := 41) J.1 J.2.1 d_MD_order_145 (by decide) ?_
        exact ih _ _ _ _ _ _ _ _ _ _ _ _ _ _ _ _ _ _ _ _ _ _ h hP hD hS (lv_sub hl [1, 2, 3, 0] rfl)
      · replace h := g_f c_10 h
        refine lv_iload J.1 J.2.1 d_MD_order_134 (lv_at hl 5 rfl) ?_
        refine lv_iload_n J.1 J.2.1 d_MD_order_136 rfl (lv_at hl 2 rfl) ?_
        refine lv_icmp_ne (tgt := 142) J.1 J.2.1 d_MD_order_137 (by decide) (fun c_11 => ?_) (fun c_11 => ?_)
        · replace h := g_f c_11 h
          refine lv_iinc (v := (x3_9 + 1)) (lv' := [(3, .int (x3_9 + 1)), (0, .ref n0), (1, .int x1_9), (2, .int x2_9), (6, .int x6_9), (7, .int x7_9)]) J.1 J.2.1 d_MD_order_142 hl (k := 3) rfl rfl (by decide) rfl ?_
          clear hl
          intro ls hl
          refine lv_goto (tgt := 41) J.1 J.2.1 d_MD_order_145 (by decide) ?_
          exact ih _ _ _ _ _ _ _ _ _ _ _ _ _ _ _ _ _ _ _ _ _ _ h hP hD hS (lv_sub hl [1, 2, 3, 0] rfl)
        · replace h := g_t c_11 h
          refine lv_iload_n J.1 J.2.1 d_MD_order_140 rfl (lv_at hl 3 rfl) ?_
          have h := Option.some.inj h
          have e_0 := (Prod.mk.inj h).1
          have h := (Prod.mk.inj h).2
          rw [← e_0, ← h]
          exact jr_i J hS hP hD rfl d_MD_order_141
set_option maxHeartbeats 4000000 in
set_option maxRecDepth 100000 in
theorem kb_MD_order_5 {p : Program} {l : Launch} {e : Env} {s : State} {m : MethodId} {below : List Frame} {meth : Method} {c : Code} {A : Nat → Prop} {E : jz_E} {n0 n_base n_bound n_depth n_disk n_halted n_isThere n_labelAddress n_labelFrom n_labelSize n_made n_memory n_mode n_output n_outs n_pc n_ranOut n_register n_size n_steps n_tape n_timer n_typed n_waits n_wants : Nat} {o_r : Int32} {o_zat : Int32} (J : JC p s m ([.ref n0] : List Value).toArray meth c c_MD_order 10 (some .int) y_MD_order.cls) (hJ : jE E s) (hA : ∀ q : Nat, s.heap.size ≤ q → A q) (hZ : jz_ok E A s s.heap) : ∀ (n : Nat) (ztaped : Int32) (zat : Int32) (zend : Int32) (zline : Int32) (zlabels : Int32) (zfault : Int32) (zfaultLine : Int32) (zisTold : Int32) (zaddress : Int32) (zmissing : Int32) (zgood : Int32) (zvalue : Int32) (zvalueFrom : Int32) (zvalueSize : Int32) (zme : Int32) (ztape : Nat → Int32) (x1 : Int32) (H : Heap) (locs : List Loc) (ls : Array Slot), b_MD_order_5 n zat zend ztape x1 = some (o_r, o_zat) → va_P E.1 classes [(n0, .inr (6, [.ref n_tape, .int ztaped, .ref n_isThere, .ref n_size, .ref n_depth, .ref n_memory, .ref n_register, .ref n_mode, .ref n_pc, .ref n_base, .ref n_bound, .ref n_timer, .ref n_ranOut, .ref n_halted, .ref n_steps, .ref n_outs, .ref n_output, .ref n_waits, .ref n_typed, .ref n_disk, .ref n_wants, .int zat, .int zend, .int zline, .ref n_labelFrom, .ref n_labelSize, .ref n_labelAddress, .int zlabels, .int zfault, .int zfaultLine, .int zisTold, .int zaddress, .ref n_made, .int zmissing, .int zgood, .int zvalue, .int zvalueFrom, .int zvalueSize, .int zme])), (n_tape, .inl (E.2.1 2, 3000, .inl ztape))] H → va_D A [(n0, .inr (6, [.ref n_tape, .int ztaped, .ref n_isThere, .ref n_size, .ref n_depth, .ref n_memory, .ref n_register, .ref n_mode, .ref n_pc, .ref n_base, .ref n_bound, .ref n_timer, .ref n_ranOut, .ref n_halted, .ref n_steps, .ref n_outs, .ref n_output, .ref n_waits, .ref n_typed, .ref n_disk, .ref n_wants, .int zat, .int zend, .int zline, .ref n_labelFrom, .ref n_labelSize, .ref n_labelAddress, .int zlabels, .int zfault, .int zfaultLine, .int zisTold, .int zaddress, .ref n_made, .int zmissing, .int zgood, .int zvalue, .int zvalueFrom, .int zvalueSize, .int zme])), (n_tape, .inl (E.2.1 2, 3000, .inl ztape))] → va_S A s.heap H locs → lv_has ls 10 [(0, .ref n0), (1, .int x1)] → W p l e ({ frames := 1, cells := 0, slots := 0, locals := 21 }) s m ([.ref n0] : List Value).toArray below meth c H locs 0 0 (MQ below (va_Qi (fun (r' : Int32) (u : va_W) => r' = o_r ∧ u = [(n0, .inr (6, [.ref n_tape, .int ztaped, .ref n_isThere, .ref n_size, .ref n_depth, .ref n_memory, .ref n_register, .ref n_mode, .ref n_pc, .ref n_base, .ref n_bound, .ref n_timer, .ref n_ranOut, .ref n_halted, .ref n_steps, .ref n_outs, .ref n_output, .ref n_waits, .ref n_typed, .ref n_disk, .ref n_wants, .int o_zat, .int zend, .int zline, .ref n_labelFrom, .ref n_labelSize, .ref n_labelAddress, .int zlabels, .int zfault, .int zfaultLine, .int zisTold, .int zaddress, .ref n_made, .int zmissing, .int zgood, .int zvalue, .int zvalueFrom, .int zvalueSize, .int zme])), (n_tape, .inl (E.2.1 2, 3000, .inl ztape))]) (BW E A) A) ([.ref n0] : List Value).toArray s 0 0 A) (F0 m 5 ls []) := by
  intro n
  induction n with
  | zero => intro ztaped zat zend zline zlabels zfault zfaultLine zisTold zaddress zmissing zgood zvalue zvalueFrom zvalueSize zme ztape x1 H locs ls h; cases h
  | succ n ih =>
    intro ztaped zat zend zline zlabels zfault zfaultLine zisTold zaddress zmissing zgood zvalue zvalueFrom zvalueSize zme ztape x1 H locs ls h hP hD hS hl
    rw [b_MD_order_5] at h
    refine lv_aload_n J.1 J.2.1 d_MD_order_5 rfl (lv_at hl 0 rfl) ?_
    refine lv_aload_n J.1 J.2.1 d_MD_order_6 rfl (lv_at hl 0 rfl) ?_
    refine jg J hJ hP 0 rfl rfl i_MD 21 (by decide) gf_MD_95 rfl d_MD_order_7 ?_
    replace h := g_bd h
    obtain ⟨r_12, q_12, h⟩ := h
    have hq := ct_MD_byteAt l E n0 n_base n_bound n_depth n_disk n_halted n_isThere n_labelAddress n_labelFrom n_labelSize n_made n_memory n_mode n_output n_outs n_pc n_ranOut n_register n_size n_steps n_tape n_timer n_typed n_waits n_wants H.size ztaped zat zend zline zlabels zfault zfaultLine zisTold zaddress zmissing zgood zvalue zvalueFrom zvalueSize zme ztape zat r_12 q_12
    have hr := jrunV (p := p) (e := e) (below := below) (R := ({ frames := 1, cells := 0, slots := 0, locals := 21 })) (cells := 0) (slots := 0) (As := [.int zat]) (rest := []) J hJ hA hZ hP hD hS hq [0, 1] rfl (by decide) gl_MD_98 gi_MD_byteAt gsel_MD_byteAt gini_MD gc_MD_byteAt hd_MD_byteAt ⟨rfl, rfl, Nat.le_of_ble_eq_true rfl, Nat.le_of_ble_eq_true rfl⟩ rfl rfl hl.1 rfl rfl (Nat.le_of_ble_eq_true rfl) d_MD_order_10 ⟨Nat.zero_le _, Nat.zero_le _⟩
    clear hq
    refine jk_i hr hA hP hD hS [0, 1] [] (WR := []) rfl rfl (by decide) (by decide) [0, 1] (WF := [(n0, .inr (6, [.ref n_tape, .int ztaped, .ref n_isThere, .ref n_size, .ref n_depth, .ref n_memory, .ref n_register, .ref n_mode, .ref n_pc, .ref n_base, .ref n_bound, .ref n_timer, .ref n_ranOut, .ref n_halted, .ref n_steps, .ref n_outs, .ref n_output, .ref n_waits, .ref n_typed, .ref n_disk, .ref n_wants, .int zat, .int zend, .int zline, .ref n_labelFrom, .ref n_labelSize, .ref n_labelAddress, .int zlabels, .int zfault, .int zfaultLine, .int zisTold, .int zaddress, .ref n_made, .int zmissing, .int zgood, .int zvalue, .int zvalueFrom, .int zvalueSize, .int zme])), (n_tape, .inl (E.2.1 2, 3000, .inl ztape))]) rfl (by decide) ?_
    clear hP hD hS
    intro H locs hP hD hS
    clear hr
    replace h := g_bd h
    obtain ⟨r_13, q_13, h⟩ := h
    have hq := ct_MD_isGreat l E  H.size  r_12 r_13 q_13
    have hr := jrunS (p := p) (e := e) (below := below) (R := ({ frames := 1, cells := 0, slots := 0, locals := 21 })) (cells := 0) (slots := 0) (As := [.int r_12]) (rest := []) J hJ hA hZ hP hD hS hq [] rfl (by decide) gl_MD_112 gs_MD_isGreat gini_MD gc_MD_isGreat hd_MD_isGreat ⟨rfl, rfl, Nat.le_of_ble_eq_true rfl, Nat.le_of_ble_eq_true rfl⟩ hl.1 rfl rfl (Nat.le_of_ble_eq_true rfl) d_MD_order_13 ⟨Nat.zero_le _, Nat.zero_le _⟩
    clear hq
    refine jk_i hr hA hP hD hS [] [0, 1] (WR := [(n0, .inr (6, [.ref n_tape, .int ztaped, .ref n_isThere, .ref n_size, .ref n_depth, .ref n_memory, .ref n_register, .ref n_mode, .ref n_pc, .ref n_base, .ref n_bound, .ref n_timer, .ref n_ranOut, .ref n_halted, .ref n_steps, .ref n_outs, .ref n_output, .ref n_waits, .ref n_typed, .ref n_disk, .ref n_wants, .int zat, .int zend, .int zline, .ref n_labelFrom, .ref n_labelSize, .ref n_labelAddress, .int zlabels, .int zfault, .int zfaultLine, .int zisTold, .int zaddress, .ref n_made, .int zmissing, .int zgood, .int zvalue, .int zvalueFrom, .int zvalueSize, .int zme])), (n_tape, .inl (E.2.1 2, 3000, .inl ztape))]) rfl rfl (by decide) (by decide) [0, 1] (WF := [(n0, .inr (6, [.ref n_tape, .int ztaped, .ref n_isThere, .ref n_size, .ref n_depth, .ref n_memory, .ref n_register, .ref n_mode, .ref n_pc, .ref n_base, .ref n_bound, .ref n_timer, .ref n_ranOut, .ref n_halted, .ref n_steps, .ref n_outs, .ref n_output, .ref n_waits, .ref n_typed, .ref n_disk, .ref n_wants, .int zat, .int zend, .int zline, .ref n_labelFrom, .ref n_labelSize, .ref n_labelAddress, .int zlabels, .int zfault, .int zfaultLine, .int zisTold, .int zaddress, .ref n_made, .int zmissing, .int zgood, .int zvalue, .int zvalueFrom, .int zvalueSize, .int zme])), (n_tape, .inl (E.2.1 2, 3000, .inl ztape))]) rfl (by decide) ?_
    clear hP hD hS
    intro H locs hP hD hS
    clear hr
    refine lv_if_eq (tgt := 32) J.1 J.2.1 d_MD_order_16 (by decide) (fun c_14 => ?_) (fun c_14 => ?_)
    · replace h := g_t c_14 h
      refine lv_aload_n J.1 J.2.1 d_MD_order_32 rfl (lv_at hl 0 rfl) ?_
      refine jg J hJ hP 0 rfl rfl i_MD 21 (by decide) gf_MD_95 rfl d_MD_order_33 ?_
      refine lv_iload_n J.1 J.2.1 d_MD_order_36 rfl (lv_at hl 1 rfl) ?_
      refine lv_isub J.1 J.2.1 d_MD_order_37 ?_
      refine lv_istore_n (lv' := [(2, .int (zat - x1)), (0, .ref n0), (1, .int x1)]) J.1 J.2.1 d_MD_order_38 rfl hl (by decide) rfl ?_
      clear hl
      intro ls hl
      refine lv_iconst (v := 0) J.1 J.2.1 d_MD_order_39 (by decide) ?_
      refine lv_istore_n (lv' := [(3, .int 0), (2, .int (zat - x1)), (0, .ref n0), (1, .int x1)]) J.1 J.2.1 d_MD_order_40 rfl hl (by decide) rfl ?_
      clear hl
      intro ls hl
      exact kb_MD_order_41 J hJ hA hZ _ _ _ _ _ _ _ _ _ _ _ _ _ _ _ _ _ _ _ _ _ _ _ h hP hD hS (lv_sub hl [2, 3, 1, 0] rfl)
    · replace h := g_f c_14 h
      refine lv_aload_n J.1 J.2.1 d_MD_order_19 rfl (lv_at hl 0 rfl) ?_
      refine lv_dup J.1 J.2.1 d_MD_order_20 rfl ?_
      refine jg J hJ hP 0 rfl rfl i_MD 21 (by decide) gf_MD_95 rfl d_MD_order_21 ?_
      refine lv_iconst (v := 1) J.1 J.2.1 d_MD_order_24 (by decide) ?_
      refine lv_iadd J.1 J.2.1 d_MD_order_25 ?_
      refine jp J hJ hP hD hS 0 rfl rfl i_MD t_MD t_MD_ok n_MD 21 (by decide) gf_MD_95 rfl rfl rfl (Nat.le_of_ble_eq_true rfl) d_MD_order_26 (WS' := [(n0, .inr (6, [.ref n_tape, .int ztaped, .ref n_isThere, .ref n_size, .ref n_depth, .ref n_memory, .ref n_register, .ref n_mode, .ref n_pc, .ref n_base, .ref n_bound, .ref n_timer, .ref n_ranOut, .ref n_halted, .ref n_steps, .ref n_outs, .ref n_output, .ref n_waits, .ref n_typed, .ref n_disk, .ref n_wants, .int (zat + 1), .int zend, .int zline, .ref n_labelFrom, .ref n_labelSize, .ref n_labelAddress, .int zlabels, .int zfault, .int zfaultLine, .int zisTold, .int zaddress, .ref n_made, .int zmissing, .int zgood, .int zvalue, .int zvalueFrom, .int zvalueSize, .int zme])), (n_tape, .inl (E.2.1 2, 3000, .inl ztape))]) rfl ?_
      clear hP hD hS
      intro H locs hP hD hS
      refine lv_goto (tgt := 5) J.1 J.2.1 d_MD_order_29 (by decide) ?_
      exact ih _ _ _ _ _ _ _ _ _ _ _ _ _ _ _ _ _ _ _ _ h hP hD hS (lv_sub hl [0, 1] rfl)
set_option maxHeartbeats 4000000 in
set_option maxRecDepth 100000 in
theorem ct_MD_order (l : Launch) (E : jz_E) (n0 n_base n_bound n_depth n_disk n_halted n_isThere n_labelAddress n_labelFrom n_labelSize n_made n_memory n_mode n_output n_outs n_pc n_ranOut n_register n_size n_steps n_tape n_timer n_typed n_waits n_wants : Nat) (sz : Nat) (ztaped : Int32) (zat : Int32) (zend : Int32) (zline : Int32) (zlabels : Int32) (zfault : Int32) (zfaultLine : Int32) (zisTold : Int32) (zaddress : Int32) (zmissing : Int32) (zgood : Int32) (zvalue : Int32) (zvalueFrom : Int32) (zvalueSize : Int32) (zme : Int32) (ztape : Nat → Int32) (o_r : Int32) (o_zat : Int32)  (h : f_MD_order zat zend ztape = some (o_r, o_zat)) : CTi l E y_MD_order c_MD_order 10 (some .int) ({ frames := 1, cells := 0, slots := 0, locals := 21 }) [.ref n0] [(n0, .inr (6, [.ref n_tape, .int ztaped, .ref n_isThere, .ref n_size, .ref n_depth, .ref n_memory, .ref n_register, .ref n_mode, .ref n_pc, .ref n_base, .ref n_bound, .ref n_timer, .ref n_ranOut, .ref n_halted, .ref n_steps, .ref n_outs, .ref n_output, .ref n_waits, .ref n_typed, .ref n_disk, .ref n_wants, .int zat, .int zend, .int zline, .ref n_labelFrom, .ref n_labelSize, .ref n_labelAddress, .int zlabels, .int zfault, .int zfaultLine, .int zisTold, .int zaddress, .ref n_made, .int zmissing, .int zgood, .int zvalue, .int zvalueFrom, .int zvalueSize, .int zme])), (n_tape, .inl (E.2.1 2, 3000, .inl ztape))] sz o_r [(n0, .inr (6, [.ref n_tape, .int ztaped, .ref n_isThere, .ref n_size, .ref n_depth, .ref n_memory, .ref n_register, .ref n_mode, .ref n_pc, .ref n_base, .ref n_bound, .ref n_timer, .ref n_ranOut, .ref n_halted, .ref n_steps, .ref n_outs, .ref n_output, .ref n_waits, .ref n_typed, .ref n_disk, .ref n_wants, .int o_zat, .int zend, .int zline, .ref n_labelFrom, .ref n_labelSize, .ref n_labelAddress, .int zlabels, .int zfault, .int zfaultLine, .int zisTold, .int zaddress, .ref n_made, .int zmissing, .int zgood, .int zvalue, .int zvalueFrom, .int zvalueSize, .int zme])), (n_tape, .inl (E.2.1 2, 3000, .inl ztape))] := by
  refine jw (by decide +kernel) (Nat.le_of_ble_eq_true rfl) ?_
  intro p e s m below meth c A ls J hJ hAe hsz hA hZ hP hD hl
  rw [← hAe]
  have hS : va_S A s.heap s.heap [] := va_S.rf
  have hl : lv_has ls 10 [(0, .ref n0)] := hl
  unfold f_MD_order at h
  refine lv_aload_n J.1 J.2.1 d_MD_order_0 rfl (lv_at hl 0 rfl) ?_
  refine jg J hJ hP 0 rfl rfl i_MD 21 (by decide) gf_MD_95 rfl d_MD_order_1 ?_
  refine lv_istore_n (lv' := [(1, .int zat), (0, .ref n0)]) J.1 J.2.1 d_MD_order_4 rfl hl (by decide) rfl ?_
  clear hl
  intro ls hl
  exact kb_MD_order_5 J hJ hA hZ _ _ _ _ _ _ _ _ _ _ _ _ _ _ _ _ _ _ _ _ _ h hP hD hS (lv_sub hl [1, 0] rfl)

theorem hd_MD_gap : y_MD_gap.cls ≠ "java/lang/invoke/MethodHandle" ∧ y_MD_gap.cls ≠ "java/lang/invoke/VarHandle" ∧ (parseMethodDescriptor y_MD_gap.desc).map (fun d => d.parameters.length) = some 0 := by decide +kernel
def f_MD_gap (zat : Int32) (zend : Int32) (zgood : Int32) (ztape : Nat → Int32) : Option (Int32 × Int32) := (if zgood = (0 : Int32) then ((f_MD_blanks zat zend ztape).bind fun zat_2 => (some (zat_2, 0))) else ((f_MD_byteAt zend ztape zat).bind fun r_3 => (if r_3 = (32 : Int32) then ((f_MD_blanks zat zend ztape).bind fun zat_6 => (some (zat_6, 1))) else ((f_MD_blanks zat zend ztape).bind fun zat_5 => (some (zat_5, 0))))))
set_option maxHeartbeats 4000000 in
set_option maxRecDepth 100000 in
theorem ct_MD_gap (l : Launch) (E : jz_E) (n0 n_base n_bound n_depth n_disk n_halted n_isThere n_labelAddress n_labelFrom n_labelSize n_made n_memory n_mode n_output n_outs n_pc n_ranOut n_register n_size n_steps n_tape n_timer n_typed n_waits n_wants : Nat) (sz : Nat) (ztaped : Int32) (zat : Int32) (zend : Int32) (zline : Int32) (zlabels : Int32) (zfault : Int32) (zfaultLine : Int32) (zisTold : Int32) (zaddress : Int32) (zmissing : Int32) (zgood : Int32) (zvalue : Int32) (zvalueFrom : Int32) (zvalueSize : Int32) (zme : Int32) (ztape : Nat → Int32) (o_zat : Int32) (o_zgood : Int32)  (h : f_MD_gap zat zend zgood ztape = some (o_zat, o_zgood)) : CTv l E y_MD_gap c_MD_gap 1 none ({ frames := 1, cells := 0, slots := 0, locals := 21 }) [.ref n0] [(n0, .inr (6, [.ref n_tape, .int ztaped, .ref n_isThere, .ref n_size, .ref n_depth, .ref n_memory, .ref n_register, .ref n_mode, .ref n_pc, .ref n_base, .ref n_bound, .ref n_timer, .ref n_ranOut, .ref n_halted, .ref n_steps, .ref n_outs, .ref n_output, .ref n_waits, .ref n_typed, .ref n_disk, .ref n_wants, .int zat, .int zend, .int zline, .ref n_labelFrom, .ref n_labelSize, .ref n_labelAddress, .int zlabels, .int zfault, .int zfaultLine, .int zisTold, .int zaddress, .ref n_made, .int zmissing, .int zgood, .int zvalue, .int zvalueFrom, .int zvalueSize, .int zme])), (n_tape, .inl (E.2.1 2, 3000, .inl ztape))] sz [(n0, .inr (6, [.ref n_tape, .int ztaped, .ref n_isThere, .ref n_size, .ref n_depth, .ref n_memory, .ref n_register, .ref n_mode, .ref n_pc, .ref n_base, .ref n_bound, .ref n_timer, .ref n_ranOut, .ref n_halted, .ref n_steps, .ref n_outs, .ref n_output, .ref n_waits, .ref n_typed, .ref n_disk, .ref n_wants, .int o_zat, .int zend, .int zline, .ref n_labelFrom, .ref n_labelSize, .ref n_labelAddress, .int zlabels, .int zfault, .int zfaultLine, .int zisTold, .int zaddress, .ref n_made, .int zmissing, .int o_zgood, .int zvalue, .int zvalueFrom, .int zvalueSize, .int zme])), (n_tape, .inl (E.2.1 2, 3000, .inl ztape))] := by
  refine jw (by decide +kernel) (Nat.le_of_ble_eq_true rfl) ?_
  intro p e s m below meth c A ls J hJ hAe hsz hA hZ hP hD hl
  rw [← hAe]
  have hS : va_S A s.heap s.heap [] := va_S.rf
  have hl : lv_has ls 1 [(0, .ref n0)] := hl
  unfold f_MD_gap at h
  refine lv_aload_n J.1 J.2.1 d_MD_gap_0 rfl (lv_at hl 0 rfl) ?_
  refine lv_aload_n J.1 J.2.1 d_MD_gap_1 rfl (lv_at hl 0 rfl) ?_
  refine jg J hJ hP 0 rfl rfl i_MD 34 (by decide) gf_MD_177 rfl d_MD_gap_2 ?_
  refine lv_if_eq (tgt := 25) J.1 J.2.1 d_MD_gap_5 (by decide) (fun c_1 => ?_) (fun c_1 => ?_)
  · replace h := g_t c_1 h
    refine lv_iconst (v := 0) J.1 J.2.1 d_MD_gap_25 (by decide) ?_
    refine jp J hJ hP hD hS 0 rfl rfl i_MD t_MD t_MD_ok n_MD 34 (by decide) gf_MD_177 rfl rfl rfl (Nat.le_of_ble_eq_true rfl) d_MD_gap_26 (WS' := [(n0, .inr (6, [.ref n_tape, .int ztaped, .ref n_isThere, .ref n_size, .ref n_depth, .ref n_memory, .ref n_register, .ref n_mode, .ref n_pc, .ref n_base, .ref n_bound, .ref n_timer, .ref n_ranOut, .ref n_halted, .ref n_steps, .ref n_outs, .ref n_output, .ref n_waits, .ref n_typed, .ref n_disk, .ref n_wants, .int zat, .int zend, .int zline, .ref n_labelFrom, .ref n_labelSize, .ref n_labelAddress, .int zlabels, .int zfault, .int zfaultLine, .int zisTold, .int zaddress, .ref n_made, .int zmissing, .int 0, .int zvalue, .int zvalueFrom, .int zvalueSize, .int zme])), (n_tape, .inl (E.2.1 2, 3000, .inl ztape))]) rfl ?_
    clear hP hD hS
    intro H locs hP hD hS
    refine lv_aload_n J.1 J.2.1 d_MD_gap_29 rfl (lv_at hl 0 rfl) ?_
    replace h := g_bd h
    obtain ⟨zat_2, q_2, h⟩ := h
    have hq := ct_MD_blanks l E n0 n_base n_bound n_depth n_disk n_halted n_isThere n_labelAddress n_labelFrom n_labelSize n_made n_memory n_mode n_output n_outs n_pc n_ranOut n_register n_size n_steps n_tape n_timer n_typed n_waits n_wants H.size ztaped zat zend zline zlabels zfault zfaultLine zisTold zaddress zmissing 0 zvalue zvalueFrom zvalueSize zme ztape zat_2 q_2
    have hr := jrunV (p := p) (e := e) (below := below) (R := ({ frames := 1, cells := 0, slots := 0, locals := 21 })) (cells := 0) (slots := 0) (As := []) (rest := []) J hJ hA hZ hP hD hS hq [0, 1] rfl (by decide) gl_MD_181 gi_MD_blanks gsel_MD_blanks gini_MD gc_MD_blanks hd_MD_blanks ⟨rfl, rfl, Nat.le_of_ble_eq_true rfl, Nat.le_of_ble_eq_true rfl⟩ rfl rfl hl.1 rfl rfl (Nat.le_of_ble_eq_true rfl) d_MD_gap_30 ⟨Nat.zero_le _, Nat.zero_le _⟩
    clear hq
    refine jk_v hr hA hP hD hS [0, 1] [] (WR := []) rfl rfl (by decide) (by decide) [0, 1] (WF := [(n0, .inr (6, [.ref n_tape, .int ztaped, .ref n_isThere, .ref n_size, .ref n_depth, .ref n_memory, .ref n_register, .ref n_mode, .ref n_pc, .ref n_base, .ref n_bound, .ref n_timer, .ref n_ranOut, .ref n_halted, .ref n_steps, .ref n_outs, .ref n_output, .ref n_waits, .ref n_typed, .ref n_disk, .ref n_wants, .int zat_2, .int zend, .int zline, .ref n_labelFrom, .ref n_labelSize, .ref n_labelAddress, .int zlabels, .int zfault, .int zfaultLine, .int zisTold, .int zaddress, .ref n_made, .int zmissing, .int 0, .int zvalue, .int zvalueFrom, .int zvalueSize, .int zme])), (n_tape, .inl (E.2.1 2, 3000, .inl ztape))]) rfl (by decide) ?_
    clear hP hD hS
    intro H locs hP hD hS
    clear hr
    have h := Option.some.inj h
    have e_0 := (Prod.mk.inj h).1
    have h := (Prod.mk.inj h).2
    rw [← e_0, ← h]
    exact jr_v J hS hP hD d_MD_gap_33
  · replace h := g_f c_1 h
    refine lv_aload_n J.1 J.2.1 d_MD_gap_8 rfl (lv_at hl 0 rfl) ?_
    refine lv_aload_n J.1 J.2.1 d_MD_gap_9 rfl (lv_at hl 0 rfl) ?_
    refine jg J hJ hP 0 rfl rfl i_MD 21 (by decide) gf_MD_95 rfl d_MD_gap_10 ?_
    replace h := g_bd h
    obtain ⟨r_3, q_3, h⟩ := h
    have hq := ct_MD_byteAt l E n0 n_base n_bound n_depth n_disk n_halted n_isThere n_labelAddress n_labelFrom n_labelSize n_made n_memory n_mode n_output n_outs n_pc n_ranOut n_register n_size n_steps n_tape n_timer n_typed n_waits n_wants s.heap.size ztaped zat zend zline zlabels zfault zfaultLine zisTold zaddress zmissing zgood zvalue zvalueFrom zvalueSize zme ztape zat r_3 q_3
    have hr := jrunV (p := p) (e := e) (below := below) (R := ({ frames := 1, cells := 0, slots := 0, locals := 21 })) (cells := 0) (slots := 0) (As := [.int zat]) (rest := [.ref n0]) J hJ hA hZ hP hD hS hq [0, 1] rfl (by decide) gl_MD_98 gi_MD_byteAt gsel_MD_byteAt gini_MD gc_MD_byteAt hd_MD_byteAt ⟨rfl, rfl, Nat.le_of_ble_eq_true rfl, Nat.le_of_ble_eq_true rfl⟩ rfl rfl hl.1 rfl rfl (Nat.le_of_ble_eq_true rfl) d_MD_gap_13 ⟨Nat.zero_le _, Nat.zero_le _⟩
    clear hq
    refine jk_i hr hA hP hD hS [0, 1] [] (WR := []) rfl rfl (by decide) (by decide) [0, 1] (WF := [(n0, .inr (6, [.ref n_tape, .int ztaped, .ref n_isThere, .ref n_size, .ref n_depth, .ref n_memory, .ref n_register, .ref n_mode, .ref n_pc, .ref n_base, .ref n_bound, .ref n_timer, .ref n_ranOut, .ref n_halted, .ref n_steps, .ref n_outs, .ref n_output, .ref n_waits, .ref n_typed, .ref n_disk, .ref n_wants, .int zat, .int zend, .int zline, .ref n_labelFrom, .ref n_labelSize, .ref n_labelAddress, .int zlabels, .int zfault, .int zfaultLine, .int zisTold, .int zaddress, .ref n_made, .int zmissing, .int zgood, .int zvalue, .int zvalueFrom, .int zvalueSize, .int zme])), (n_tape, .inl (E.2.1 2, 3000, .inl ztape))]) rfl (by decide) ?_
    clear hP hD hS
    intro H locs hP hD hS
    clear hr
    refine lv_bipush (v := 32) J.1 J.2.1 d_MD_gap_16 (by decide) ?_
    refine lv_icmp_ne (tgt := 25) J.1 J.2.1 d_MD_gap_18 (by decide) (fun c_4 => ?_) (fun c_4 => ?_)
    · replace h := g_f c_4 h
      refine lv_iconst (v := 0) J.1 J.2.1 d_MD_gap_25 (by decide) ?_
      refine jp J hJ hP hD hS 0 rfl rfl i_MD t_MD t_MD_ok n_MD 34 (by decide) gf_MD_177 rfl rfl rfl (Nat.le_of_ble_eq_true rfl) d_MD_gap_26 (WS' := [(n0, .inr (6, [.ref n_tape, .int ztaped, .ref n_isThere, .ref n_size, .ref n_depth, .ref n_memory, .ref n_register, .ref n_mode, .ref n_pc, .ref n_base, .ref n_bound, .ref n_timer, .ref n_ranOut, .ref n_halted, .ref n_steps, .ref n_outs, .ref n_output, .ref n_waits, .ref n_typed, .ref n_disk, .ref n_wants, .int zat, .int zend, .int zline, .ref n_labelFrom, .ref n_labelSize, .ref n_labelAddress, .int zlabels, .int zfault, .int zfaultLine, .int zisTold, .int zaddress, .ref n_made, .int zmissing, .int 0, .int zvalue, .int zvalueFrom, .int zvalueSize, .int zme])), (n_tape, .inl (E.2.1 2, 3000, .inl ztape))]) rfl ?_
      clear hP hD hS
      intro H locs hP hD hS
      refine lv_aload_n J.1 J.2.1 d_MD_gap_29 rfl (lv_at hl 0 rfl) ?_
      replace h := g_bd h
      obtain ⟨zat_5, q_5, h⟩ := h
      have hq := ct_MD_blanks l E n0 n_base n_bound n_depth n_disk n_halted n_isThere n_labelAddress n_labelFrom n_labelSize n_made n_memory n_mode n_output n_outs n_pc n_ranOut n_register n_size n_steps n_tape n_timer n_typed n_waits n_wants H.size ztaped zat zend zline zlabels zfault zfaultLine zisTold zaddress zmissing 0 zvalue zvalueFrom zvalueSize zme ztape zat_5 q_5
      have hr := jrunV (p := p) (e := e) (below := below) (R := ({ frames := 1, cells := 0, slots := 0, locals := 21 })) (cells := 0) (slots := 0) (As := []) (rest := []) J hJ hA hZ hP hD hS hq [0, 1] rfl (by decide) gl_MD_181 gi_MD_blanks gsel_MD_blanks gini_MD gc_MD_blanks hd_MD_blanks ⟨rfl, rfl, Nat.le_of_ble_eq_true rfl, Nat.le_of_ble_eq_true rfl⟩ rfl rfl hl.1 rfl rfl (Nat.le_of_ble_eq_true rfl) d_MD_gap_30 ⟨Nat.zero_le _, Nat.zero_le _⟩
      clear hq
      refine jk_v hr hA hP hD hS [0, 1] [] (WR := []) rfl rfl (by decide) (by decide) [0, 1] (WF := [(n0, .inr (6, [.ref n_tape, .int ztaped, .ref n_isThere, .ref n_size, .ref n_depth, .ref n_memory, .ref n_register, .ref n_mode, .ref n_pc, .ref n_base, .ref n_bound, .ref n_timer, .ref n_ranOut, .ref n_halted, .ref n_steps, .ref n_outs, .ref n_output, .ref n_waits, .ref n_typed, .ref n_disk, .ref n_wants, .int zat_5, .int zend, .int zline, .ref n_labelFrom, .ref n_labelSize, .ref n_labelAddress, .int zlabels, .int zfault, .int zfaultLine, .int zisTold, .int zaddress, .ref n_made, .int zmissing, .int 0, .int zvalue, .int zvalueFrom, .int zvalueSize, .int zme])), (n_tape, .inl (E.2.1 2, 3000, .inl ztape))]) rfl (by decide) ?_
      clear hP hD hS
      intro H locs hP hD hS
      clear hr
      have h := Option.some.inj h
      have e_0 := (Prod.mk.inj h).1
      have h := (Prod.mk.inj h).2
      rw [← e_0, ← h]
      exact jr_v J hS hP hD d_MD_gap_33
    · replace h := g_t c_4 h
      refine lv_iconst (v := 1) J.1 J.2.1 d_MD_gap_21 (by decide) ?_
      refine lv_goto (tgt := 26) J.1 J.2.1 d_MD_gap_22 (by decide) ?_
      refine jp J hJ hP hD hS 0 rfl rfl i_MD t_MD t_MD_ok n_MD 34 (by decide) gf_MD_177 rfl rfl rfl (Nat.le_of_ble_eq_true rfl) d_MD_gap_26 (WS' := [(n0, .inr (6, [.ref n_tape, .int ztaped, .ref n_isThere, .ref n_size, .ref n_depth, .ref n_memory, .ref n_register, .ref n_mode, .ref n_pc, .ref n_base, .ref n_bound, .ref n_timer, .ref n_ranOut, .ref n_halted, .ref n_steps, .ref n_outs, .ref n_output, .ref n_waits, .ref n_typed, .ref n_disk, .ref n_wants, .int zat, .int zend, .int zline, .ref n_labelFrom, .ref n_labelSize, .ref n_labelAddress, .int zlabels, .int zfault, .int zfaultLine, .int zisTold, .int zaddress, .ref n_made, .int zmissing, .int 1, .int zvalue, .int zvalueFrom, .int zvalueSize, .int zme])), (n_tape, .inl (E.2.1 2, 3000, .inl ztape))]) rfl ?_
      clear hP hD hS
      intro H locs hP hD hS
      refine lv_aload_n J.1 J.2.1 d_MD_gap_29 rfl (lv_at hl 0 rfl) ?_
      replace h := g_bd h
      obtain ⟨zat_6, q_6, h⟩ := h
      have hq := ct_MD_blanks l E n0 n_base n_bound n_depth n_disk n_halted n_isThere n_labelAddress n_labelFrom n_labelSize n_made n_memory n_mode n_output n_outs n_pc n_ranOut n_register n_size n_steps n_tape n_timer n_typed n_waits n_wants H.size ztaped zat zend zline zlabels zfault zfaultLine zisTold zaddress zmissing 1 zvalue zvalueFrom zvalueSize zme ztape zat_6 q_6
      have hr := jrunV (p := p) (e := e) (below := below) (R := ({ frames := 1, cells := 0, slots := 0, locals := 21 })) (cells := 0) (slots := 0) (As := []) (rest := []) J hJ hA hZ hP hD hS hq [0, 1] rfl (by decide) gl_MD_181 gi_MD_blanks gsel_MD_blanks gini_MD gc_MD_blanks hd_MD_blanks ⟨rfl, rfl, Nat.le_of_ble_eq_true rfl, Nat.le_of_ble_eq_true rfl⟩ rfl rfl hl.1 rfl rfl (Nat.le_of_ble_eq_true rfl) d_MD_gap_30 ⟨Nat.zero_le _, Nat.zero_le _⟩
      clear hq
      refine jk_v hr hA hP hD hS [0, 1] [] (WR := []) rfl rfl (by decide) (by decide) [0, 1] (WF := [(n0, .inr (6, [.ref n_tape, .int ztaped, .ref n_isThere, .ref n_size, .ref n_depth, .ref n_memory, .ref n_register, .ref n_mode, .ref n_pc, .ref n_base, .ref n_bound, .ref n_timer, .ref n_ranOut, .ref n_halted, .ref n_steps, .ref n_outs, .ref n_output, .ref n_waits, .ref n_typed, .ref n_disk, .ref n_wants, .int zat_6, .int zend, .int zline, .ref n_labelFrom, .ref n_labelSize, .ref n_labelAddress, .int zlabels, .int zfault, .int zfaultLine, .int zisTold, .int zaddress, .ref n_made, .int zmissing, .int 1, .int zvalue, .int zvalueFrom, .int zvalueSize, .int zme])), (n_tape, .inl (E.2.1 2, 3000, .inl ztape))]) rfl (by decide) ?_
      clear hP hD hS
      intro H locs hP hD hS
      clear hr
      have h := Option.some.inj h
      have e_0 := (Prod.mk.inj h).1
      have h := (Prod.mk.inj h).2
      rw [← e_0, ← h]
      exact jr_v J hS hP hD d_MD_gap_33

theorem hd_MD_register : y_MD_register.cls ≠ "java/lang/invoke/MethodHandle" ∧ y_MD_register.cls ≠ "java/lang/invoke/VarHandle" ∧ (parseMethodDescriptor y_MD_register.desc).map (fun d => d.parameters.length) = some 0 := by decide +kernel
def b_MD_register_88 (zat : Int32) (zgood : Int32) (x1 : Int32) : Option (Int32 × Int32 × Int32) := (if zgood = (0 : Int32) then (some (x1, zat, zgood)) else (some (x1, (zat + 2), zgood)))
def b_MD_register_63 (zat : Int32) (zend : Int32) (zgood : Int32) (ztape : Nat → Int32) : Option (Int32 × Int32 × Int32) := (if zgood = (0 : Int32) then b_MD_register_88 zat zgood 0 else ((f_MD_byteAt zend ztape (zat + 1)).bind fun r_3 => b_MD_register_88 zat zgood (r_3 - 48)))
def f_MD_register (zat : Int32) (zend : Int32) (zgood : Int32) (ztape : Nat → Int32) : Option (Int32 × Int32 × Int32) := ((f_MD_gap zat zend zgood ztape).bind fun (zat_4, zgood_4) => (if zgood_4 = (0 : Int32) then b_MD_register_63 zat_4 zend 0 ztape else ((f_MD_byteAt zend ztape zat_4).bind fun r_6 => (if r_6 = (114 : Int32) then ((f_MD_byteAt zend ztape (zat_4 + 1)).bind fun r_8 => (if r_8 < (48 : Int32) then b_MD_register_63 zat_4 zend 0 ztape else ((f_MD_byteAt zend ztape (zat_4 + 1)).bind fun r_10 => (if (55 : Int32) < r_10 then b_MD_register_63 zat_4 zend 0 ztape else b_MD_register_63 zat_4 zend 1 ztape)))) else b_MD_register_63 zat_4 zend 0 ztape))))
set_option maxHeartbeats 4000000 in
set_option maxRecDepth 100000 in
theorem kb_MD_register_88 {p : Program} {l : Launch} {e : Env} {s : State} {m : MethodId} {below : List Frame} {meth : Method} {c : Code} {A : Nat → Prop} {E : jz_E} {n0 n_base n_bound n_depth n_disk n_halted n_isThere n_labelAddress n_labelFrom n_labelSize n_made n_memory n_mode n_output n_outs n_pc n_ranOut n_register n_size n_steps n_tape n_timer n_typed n_waits n_wants : Nat} {o_r : Int32} {o_zat : Int32} {o_zgood : Int32} (J : JC p s m ([.ref n0] : List Value).toArray meth c c_MD_register 2 (some .int) y_MD_register.cls) (hJ : jE E s) (hA : ∀ q : Nat, s.heap.size ≤ q → A q) (hZ : jz_ok E A s s.heap) : ∀ (ztaped : Int32) (zat : Int32) (zend : Int32) (zline : Int32) (zlabels : Int32) (zfault : Int32) (zfaultLine : Int32) (zisTold : Int32) (zaddress : Int32) (zmissing : Int32) (zgood : Int32) (zvalue : Int32) (zvalueFrom : Int32) (zvalueSize : Int32) (zme : Int32) (ztape : Nat → Int32) (x1 : Int32) (H : Heap) (locs : List Loc) (ls : Array Slot), b_MD_register_88 zat zgood x1 = some (o_r, o_zat, o_zgood) → va_P E.1 classes [(n0, .inr (6, [.ref n_tape, .int ztaped, .ref n_isThere, .ref n_size, .ref n_depth, .ref n_memory, .ref n_register, .ref n_mode, .ref n_pc, .ref n_base, .ref n_bound, .ref n_timer, .ref n_ranOut, .ref n_halted, .ref n_steps, .ref n_outs, .ref n_output, .ref n_waits, .ref n_typed, .ref n_disk, .ref n_wants, .int zat, .int zend, .int zline, .ref n_labelFrom, .ref n_labelSize, .ref n_labelAddress, .int zlabels, .int zfault, .int zfaultLine, .int zisTold, .int zaddress, .ref n_made, .int zmissing, .int zgood, .int zvalue, .int zvalueFrom, .int zvalueSize, .int zme])), (n_tape, .inl (E.2.1 2, 3000, .inl ztape))] H → va_D A [(n0, .inr (6, [.ref n_tape, .int ztaped, .ref n_isThere, .ref n_size, .ref n_depth, .ref n_memory, .ref n_register, .ref n_mode, .ref n_pc, .ref n_base, .ref n_bound, .ref n_timer, .ref n_ranOut, .ref n_halted, .ref n_steps, .ref n_outs, .ref n_output, .ref n_waits, .ref n_typed, .ref n_disk, .ref n_wants, .int zat, .int zend, .int zline, .ref n_labelFrom, .ref n_labelSize, .ref n_labelAddress, .int zlabels, .int zfault, .int zfaultLine, .int zisTold, .int zaddress, .ref n_made, .int zmissing, .int zgood, .int zvalue, .int zvalueFrom, .int zvalueSize, .int zme])), (n_tape, .inl (E.2.1 2, 3000, .inl ztape))] → va_S A s.heap H locs → lv_has ls 2 [(0, .ref n0), (1, .int x1)] → W p l e ({ frames := 2, cells := 0, slots := 0, locals := 41 }) s m ([.ref n0] : List Value).toArray below meth c H locs 0 0 (MQ below (va_Qi (fun (r' : Int32) (u : va_W) => r' = o_r ∧ u = [(n0, .inr (6, [.ref n_tape, .int ztaped, .ref n_isThere, .ref n_size, .ref n_depth, .ref n_memory, .ref n_register, .ref n_mode, .ref n_pc, .ref n_base, .ref n_bound, .ref n_timer, .ref n_ranOut, .ref n_halted, .ref n_steps, .ref n_outs, .ref n_output, .ref n_waits, .ref n_typed, .ref n_disk, .ref n_wants, .int o_zat, .int zend, .int zline, .ref n_labelFrom, .ref n_labelSize, .ref n_labelAddress, .int zlabels, .int zfault, .int zfaultLine, .int zisTold, .int zaddress, .ref n_made, .int zmissing, .int o_zgood, .int zvalue, .int zvalueFrom, .int zvalueSize, .int zme])), (n_tape, .inl (E.2.1 2, 3000, .inl ztape))]) (BW E A) A) ([.ref n0] : List Value).toArray s 0 0 A) (F0 m 88 ls []) := by
  intro ztaped zat zend zline zlabels zfault zfaultLine zisTold zaddress zmissing zgood zvalue zvalueFrom zvalueSize zme ztape x1 H locs ls h hP hD hS hl
  rw [b_MD_register_88] at h
  refine lv_aload_n J.1 J.2.1 d_MD_register_88 rfl (lv_at hl 0 rfl) ?_
  refine jg J hJ hP 0 rfl rfl i_MD 34 (by decide) gf_MD_177 rfl d_MD_register_89 ?_
  refine lv_if_eq (tgt := 105) J.1 J.2.1 d_MD_register_92 (by decide) (fun c_1 => ?_) (fun c_1 => ?_)
  · replace h := g_t c_1 h
    refine lv_iload_n J.1 J.2.1 d_MD_register_105 rfl (lv_at hl 1 rfl) ?_
    have h := Option.some.inj h
    have e_0 := (Prod.mk.inj h).1
    have h := (Prod.mk.inj h).2
    have e_1 := (Prod.mk.inj h).1
    have h := (Prod.mk.inj h).2
    rw [← e_0, ← e_1, ← h]
    exact jr_i J hS hP hD rfl d_MD_register_106
  · replace h := g_f c_1 h
    refine lv_aload_n J.1 J.2.1 d_MD_register_95 rfl (lv_at hl 0 rfl) ?_
    refine lv_dup J.1 J.2.1 d_MD_register_96 rfl ?_
    refine jg J hJ hP 0 rfl rfl i_MD 21 (by decide) gf_MD_95 rfl d_MD_register_97 ?_
    refine lv_iconst (v := 2) J.1 J.2.1 d_MD_register_100 (by decide) ?_
    refine lv_iadd J.1 J.2.1 d_MD_register_101 ?_
    refine jp J hJ hP hD hS 0 rfl rfl i_MD t_MD t_MD_ok n_MD 21 (by decide) gf_MD_95 rfl rfl rfl (Nat.le_of_ble_eq_true rfl) d_MD_register_102 (WS' := [(n0, .inr (6, [.ref n_tape, .int ztaped, .ref n_isThere, .ref n_size, .ref n_depth, .ref n_memory, .ref n_register, .ref n_mode, .ref n_pc, .ref n_base, .ref n_bound, .ref n_timer, .ref n_ranOut, .ref n_halted, .ref n_steps, .ref n_outs, .ref n_output, .ref n_waits, .ref n_typed, .ref n_disk, .ref n_wants, .int (zat + 2), .int zend, .int zline, .ref n_labelFrom, .ref n_labelSize, .ref n_labelAddress, .int zlabels, .int zfault, .int zfaultLine, .int zisTold, .int zaddress, .ref n_made, .int zmissing, .int zgood, .int zvalue, .int zvalueFrom, .int zvalueSize, .int zme])), (n_tape, .inl (E.2.1 2, 3000, .inl ztape))]) rfl ?_
    clear hP hD hS
    intro H locs hP hD hS
    refine lv_iload_n J.1 J.2.1 d_MD_register_105 rfl (lv_at hl 1 rfl) ?_
    have h := Option.some.inj h
    have e_0 := (Prod.mk.inj h).1
    have h := (Prod.mk.inj h).2
    have e_1 := (Prod.mk.inj h).1
    have h := (Prod.mk.inj h).2
    rw [← e_0, ← e_1, ← h]
    exact jr_i J hS hP hD rfl d_MD_register_106
set_option maxHeartbeats 4000000 in
set_option maxRecDepth 100000 in
theorem kb_MD_register_63 {p : Program} {l : Launch} {e : Env} {s : State} {m : MethodId} {below : List Frame} {meth : Method} {c : Code} {A : Nat → Prop} {E : jz_E} {n0 n_base n_bound n_depth n_disk n_halted n_isThere n_labelAddress n_labelFrom n_labelSize n_made n_memory n_mode n_output n_outs n_pc n_ranOut n_register n_size n_steps n_tape n_timer n_typed n_waits n_wants : Nat} {o_r : Int32} {o_zat : Int32} {o_zgood : Int32} (J : JC p s m ([.ref n0] : List Value).toArray meth c c_MD_register 2 (some .int) y_MD_register.cls) (hJ : jE E s) (hA : ∀ q : Nat, s.heap.size ≤ q → A q) (hZ : jz_ok E A s s.heap) : ∀ (ztaped : Int32) (zat : Int32) (zend : Int32) (zline : Int32) (zlabels : Int32) (zfault : Int32) (zfaultLine : Int32) (zisTold : Int32) (zaddress : Int32) (zmissing : Int32) (zgood : Int32) (zvalue : Int32) (zvalueFrom : Int32) (zvalueSize : Int32) (zme : Int32) (ztape : Nat → Int32) (H : Heap) (locs : List Loc) (ls : Array Slot), b_MD_register_63 zat zend zgood ztape = some (o_r, o_zat, o_zgood) → va_P E.1 classes [(n0, .inr (6, [.ref n_tape, .int ztaped, .ref n_isThere, .ref n_size, .ref n_depth, .ref n_memory, .ref n_register, .ref n_mode, .ref n_pc, .ref n_base, .ref n_bound, .ref n_timer, .ref n_ranOut, .ref n_halted, .ref n_steps, .ref n_outs, .ref n_output, .ref n_waits, .ref n_typed, .ref n_disk, .ref n_wants, .int zat, .int zend, .int zline, .ref n_labelFrom, .ref n_labelSize, .ref n_labelAddress, .int zlabels, .int zfault, .int zfaultLine, .int zisTold, .int zaddress, .ref n_made, .int zmissing, .int zgood, .int zvalue, .int zvalueFrom, .int zvalueSize, .int zme])), (n_tape, .inl (E.2.1 2, 3000, .inl ztape))] H → va_D A [(n0, .inr (6, [.ref n_tape, .int ztaped, .ref n_isThere, .ref n_size, .ref n_depth, .ref n_memory, .ref n_register, .ref n_mode, .ref n_pc, .ref n_base, .ref n_bound, .ref n_timer, .ref n_ranOut, .ref n_halted, .ref n_steps, .ref n_outs, .ref n_output, .ref n_waits, .ref n_typed, .ref n_disk, .ref n_wants, .int zat, .int zend, .int zline, .ref n_labelFrom, .ref n_labelSize, .ref n_labelAddress, .int zlabels, .int zfault, .int zfaultLine, .int zisTold, .int zaddress, .ref n_made, .int zmissing, .int zgood, .int zvalue, .int zvalueFrom, .int zvalueSize, .int zme])), (n_tape, .inl (E.2.1 2, 3000, .inl ztape))] → va_S A s.heap H locs → lv_has ls 2 [(0, .ref n0)] → W p l e ({ frames := 2, cells := 0, slots := 0, locals := 41 }) s m ([.ref n0] : List Value).toArray below meth c H locs 0 0 (MQ below (va_Qi (fun (r' : Int32) (u : va_W) => r' = o_r ∧ u = [(n0, .inr (6, [.ref n_tape, .int ztaped, .ref n_isThere, .ref n_size, .ref n_depth, .ref n_memory, .ref n_register, .ref n_mode, .ref n_pc, .ref n_base, .ref n_bound, .ref n_timer, .ref n_ranOut, .ref n_halted, .ref n_steps, .ref n_outs, .ref n_output, .ref n_waits, .ref n_typed, .ref n_disk, .ref n_wants, .int o_zat, .int zend, .int zline, .ref n_labelFrom, .ref n_labelSize, .ref n_labelAddress, .int zlabels, .int zfault, .int zfaultLine, .int zisTold, .int zaddress, .ref n_made, .int zmissing, .int o_zgood, .int zvalue, .int zvalueFrom, .int zvalueSize, .int zme])), (n_tape, .inl (E.2.1 2, 3000, .inl ztape))]) (BW E A) A) ([.ref n0] : List Value).toArray s 0 0 A) (F0 m 63 ls []) := by
  intro ztaped zat zend zline zlabels zfault zfaultLine zisTold zaddress zmissing zgood zvalue zvalueFrom zvalueSize zme ztape H locs ls h hP hD hS hl
  rw [b_MD_register_63] at h
  refine lv_aload_n J.1 J.2.1 d_MD_register_63 rfl (lv_at hl 0 rfl) ?_
  refine jg J hJ hP 0 rfl rfl i_MD 34 (by decide) gf_MD_177 rfl d_MD_register_64 ?_
  refine lv_if_eq (tgt := 86) J.1 J.2.1 d_MD_register_67 (by decide) (fun c_2 => ?_) (fun c_2 => ?_)
  · replace h := g_t c_2 h
    refine lv_iconst (v := 0) J.1 J.2.1 d_MD_register_86 (by decide) ?_
    refine lv_istore_n (lv' := [(1, .int 0), (0, .ref n0)]) J.1 J.2.1 d_MD_register_87 rfl hl (by decide) rfl ?_
    clear hl
    intro ls hl
    exact kb_MD_register_88 J hJ hA hZ _ _ _ _ _ _ _ _ _ _ _ _ _ _ _ _ _ _ _ _ h hP hD hS (lv_sub hl [1, 0] rfl)
  · replace h := g_f c_2 h
    refine lv_aload_n J.1 J.2.1 d_MD_register_70 rfl (lv_at hl 0 rfl) ?_
    refine lv_aload_n J.1 J.2.1 d_MD_register_71 rfl (lv_at hl 0 rfl) ?_
    refine jg J hJ hP 0 rfl rfl i_MD 21 (by decide) gf_MD_95 rfl d_MD_register_72 ?_
    refine lv_iconst (v := 1) J.1 J.2.1 d_MD_register_75 (by decide) ?_
    refine lv_iadd J.1 J.2.1 d_MD_register_76 ?_
    replace h := g_bd h
    obtain ⟨r_3, q_3, h⟩ := h
    have hq := ct_MD_byteAt l E n0 n_base n_bound n_depth n_disk n_halted n_isThere n_labelAddress n_labelFrom n_labelSize n_made n_memory n_mode n_output n_outs n_pc n_ranOut n_register n_size n_steps n_tape n_timer n_typed n_waits n_wants H.size ztaped zat zend zline zlabels zfault zfaultLine zisTold zaddress zmissing zgood zvalue zvalueFrom zvalueSize zme ztape (zat + 1) r_3 q_3
    have hr := jrunV (p := p) (e := e) (below := below) (R := ({ frames := 2, cells := 0, slots := 0, locals := 41 })) (cells := 0) (slots := 0) (As := [.int (zat + 1)]) (rest := []) J hJ hA hZ hP hD hS hq [0, 1] rfl (by decide) gl_MD_98 gi_MD_byteAt gsel_MD_byteAt gini_MD gc_MD_byteAt hd_MD_byteAt ⟨rfl, rfl, Nat.le_of_ble_eq_true rfl, Nat.le_of_ble_eq_true rfl⟩ rfl rfl hl.1 rfl rfl (Nat.le_of_ble_eq_true rfl) d_MD_register_77 ⟨Nat.zero_le _, Nat.zero_le _⟩
    clear hq
    refine jk_i hr hA hP hD hS [0, 1] [] (WR := []) rfl rfl (by decide) (by decide) [0, 1] (WF := [(n0, .inr (6, [.ref n_tape, .int ztaped, .ref n_isThere, .ref n_size, .ref n_depth, .ref n_memory, .ref n_register, .ref n_mode, .ref n_pc, .ref n_base, .ref n_bound, .ref n_timer, .ref n_ranOut, .ref n_halted, .ref n_steps, .ref n_outs, .ref n_output, .ref n_waits, .ref n_typed, .ref n_disk, .ref n_wants, .int zat, .int zend, .int zline, .ref n_labelFrom, .ref n_labelSize, .ref n_labelAddress, .int zlabels, .int zfault, .int zfaultLine, .int zisTold, .int zaddress, .ref n_made, .int zmissing, .int zgood, .int zvalue, .int zvalueFrom, .int zvalueSize, .int zme])), (n_tape, .inl (E.2.1 2, 3000, .inl ztape))]) rfl (by decide) ?_
    clear hP hD hS
    intro H locs hP hD hS
    clear hr
    refine lv_bipush (v := 48) J.1 J.2.1 d_MD_register_80 (by decide) ?_
    refine lv_isub J.1 J.2.1 d_MD_register_82 ?_
    refine lv_goto (tgt := 87) J.1 J.2.1 d_MD_register_83 (by decide) ?_
    refine lv_istore_n (lv' := [(1, .int (r_3 - 48)), (0, .ref n0)]) J.1 J.2.1 d_MD_register_87 rfl hl (by decide) rfl ?_
    clear hl
    intro ls hl
    exact kb_MD_register_88 J hJ hA hZ _ _ _ _ _ _ _ _ _ _ _ _ _ _ _ _ _ _ _ _ h hP hD hS (lv_sub hl [1, 0] rfl)
set_option maxHeartbeats 4000000 in
set_option maxRecDepth 100000 in
theorem ct_MD_register (l : Launch) (E : jz_E) (n0 n_base n_bound n_depth n_disk n_halted n_isThere n_labelAddress n_labelFrom n_labelSize n_made n_memory n_mode n_output n_outs n_pc n_ranOut n_register n_size n_steps n_tape n_timer n_typed n_waits n_wants : Nat) (sz : Nat) (ztaped : Int32) (zat : Int32) (zend : Int32) (zline : Int32) (zlabels : Int32) (zfault : Int32) (zfaultLine : Int32) (zisTold : Int32) (zaddress : Int32) (zmissing : Int32) (zgood : Int32) (zvalue : Int32) (zvalueFrom : Int32) (zvalueSize : Int32) (zme : Int32) (ztape : Nat → Int32) (o_r : Int32) (o_zat : Int32) (o_zgood : Int32)  (h : f_MD_register zat zend zgood ztape = some (o_r, o_zat, o_zgood)) : CTi l E y_MD_register c_MD_register 2 (some .int) ({ frames := 2, cells := 0, slots := 0, locals := 41 }) [.ref n0] [(n0, .inr (6, [.ref n_tape, .int ztaped, .ref n_isThere, .ref n_size, .ref n_depth, .ref n_memory, .ref n_register, .ref n_mode, .ref n_pc, .ref n_base, .ref n_bound, .ref n_timer, .ref n_ranOut, .ref n_halted, .ref n_steps, .ref n_outs, .ref n_output, .ref n_waits, .ref n_typed, .ref n_disk, .ref n_wants, .int zat, .int zend, .int zline, .ref n_labelFrom, .ref n_labelSize, .ref n_labelAddress, .int zlabels, .int zfault, .int zfaultLine, .int zisTold, .int zaddress, .ref n_made, .int zmissing, .int zgood, .int zvalue, .int zvalueFrom, .int zvalueSize, .int zme])), (n_tape, .inl (E.2.1 2, 3000, .inl ztape))] sz o_r [(n0, .inr (6, [.ref n_tape, .int ztaped, .ref n_isThere, .ref n_size, .ref n_depth, .ref n_memory, .ref n_register, .ref n_mode, .ref n_pc, .ref n_base, .ref n_bound, .ref n_timer, .ref n_ranOut, .ref n_halted, .ref n_steps, .ref n_outs, .ref n_output, .ref n_waits, .ref n_typed, .ref n_disk, .ref n_wants, .int o_zat, .int zend, .int zline, .ref n_labelFrom, .ref n_labelSize, .ref n_labelAddress, .int zlabels, .int zfault, .int zfaultLine, .int zisTold, .int zaddress, .ref n_made, .int zmissing, .int o_zgood, .int zvalue, .int zvalueFrom, .int zvalueSize, .int zme])), (n_tape, .inl (E.2.1 2, 3000, .inl ztape))] := by
  refine jw (by decide +kernel) (Nat.le_of_ble_eq_true rfl) ?_
  intro p e s m below meth c A ls J hJ hAe hsz hA hZ hP hD hl
  rw [← hAe]
  have hS : va_S A s.heap s.heap [] := va_S.rf
  have hl : lv_has ls 2 [(0, .ref n0)] := hl
  unfold f_MD_register at h
  refine lv_aload_n J.1 J.2.1 d_MD_register_0 rfl (lv_at hl 0 rfl) ?_
  replace h := g_bd h
  obtain ⟨⟨zat_4, zgood_4⟩, q_4, h⟩ := h
  try dsimp only at h
  have hq := ct_MD_gap l E n0 n_base n_bound n_depth n_disk n_halted n_isThere n_labelAddress n_labelFrom n_labelSize n_made n_memory n_mode n_output n_outs n_pc n_ranOut n_register n_size n_steps n_tape n_timer n_typed n_waits n_wants s.heap.size ztaped zat zend zline zlabels zfault zfaultLine zisTold zaddress zmissing zgood zvalue zvalueFrom zvalueSize zme ztape zat_4 zgood_4 q_4
  have hr := jrunV (p := p) (e := e) (below := below) (R := ({ frames := 2, cells := 0, slots := 0, locals := 41 })) (cells := 0) (slots := 0) (As := []) (rest := []) J hJ hA hZ hP hD hS hq [0, 1] rfl (by decide) gl_MD_184 gi_MD_gap gsel_MD_gap gini_MD gc_MD_gap hd_MD_gap ⟨rfl, rfl, Nat.le_of_ble_eq_true rfl, Nat.le_of_ble_eq_true rfl⟩ rfl rfl hl.1 rfl rfl (Nat.le_of_ble_eq_true rfl) d_MD_register_1 ⟨Nat.zero_le _, Nat.zero_le _⟩
  clear hq
  refine jk_v hr hA hP hD hS [0, 1] [] (WR := []) rfl rfl (by decide) (by decide) [0, 1] (WF := [(n0, .inr (6, [.ref n_tape, .int ztaped, .ref n_isThere, .ref n_size, .ref n_depth, .ref n_memory, .ref n_register, .ref n_mode, .ref n_pc, .ref n_base, .ref n_bound, .ref n_timer, .ref n_ranOut, .ref n_halted, .ref n_steps, .ref n_outs, .ref n_output, .ref n_waits, .ref n_typed, .ref n_disk, .ref n_wants, .int zat_4, .int zend, .int zline, .ref n_labelFrom, .ref n_labelSize, .ref n_labelAddress, .int zlabels, .int zfault, .int zfaultLine, .int zisTold, .int zaddress, .ref n_made, .int zmissing, .int zgood_4, .int zvalue, .int zvalueFrom, .int zvalueSize, .int zme])), (n_tape, .inl (E.2.1 2, 3000, .inl ztape))]) rfl (by decide) ?_
  clear hP hD hS
  intro H locs hP hD hS
  clear hr
  refine lv_aload_n J.1 J.2.1 d_MD_register_4 rfl (lv_at hl 0 rfl) ?_
  refine lv_aload_n J.1 J.2.1 d_MD_register_5 rfl (lv_at hl 0 rfl) ?_
  refine jg J hJ hP 0 rfl rfl i_MD 34 (by decide) gf_MD_177 rfl d_MD_register_6 ?_
  refine lv_if_eq (tgt := 59) J.1 J.2.1 d_MD_register_9 (by decide) (fun c_5 => ?_) (fun c_5 => ?_)
  · replace h := g_t c_5 h
    refine lv_iconst (v := 0) J.1 J.2.1 d_MD_register_59 (by decide) ?_
    refine jp J hJ hP hD hS 0 rfl rfl i_MD t_MD t_MD_ok n_MD 34 (by decide) gf_MD_177 rfl rfl rfl (Nat.le_of_ble_eq_true rfl) d_MD_register_60 (WS' := [(n0, .inr (6, [.ref n_tape, .int ztaped, .ref n_isThere, .ref n_size, .ref n_depth, .ref n_memory, .ref n_register, .ref n_mode, .ref n_pc, .ref n_base, .ref n_bound, .ref n_timer, .ref n_ranOut, .ref n_halted, .ref n_steps, .ref n_outs, .ref n_output, .ref n_waits, .ref n_typed, .ref n_disk, .ref n_wants, .int zat_4, .int zend, .int zline, .ref n_labelFrom, .ref n_labelSize, .ref n_labelAddress, .int zlabels, .int zfault, .int zfaultLine, .int zisTold, .int zaddress, .ref n_made, .int zmissing, .int 0, .int zvalue, .int zvalueFrom, .int zvalueSize, .int zme])), (n_tape, .inl (E.2.1 2, 3000, .inl ztape))]) rfl ?_
    clear hP hD hS
    intro H locs hP hD hS
    exact kb_MD_register_63 J hJ hA hZ _ _ _ _ _ _ _ _ _ _ _ _ _ _ _ _ _ _ _ h hP hD hS (lv_sub hl [0] rfl)
  · replace h := g_f c_5 h
    refine lv_aload_n J.1 J.2.1 d_MD_register_12 rfl (lv_at hl 0 rfl) ?_
    refine lv_aload_n J.1 J.2.1 d_MD_register_13 rfl (lv_at hl 0 rfl) ?_
    refine jg J hJ hP 0 rfl rfl i_MD 21 (by decide) gf_MD_95 rfl d_MD_register_14 ?_
    replace h := g_bd h
    obtain ⟨r_6, q_6, h⟩ := h
    have hq := ct_MD_byteAt l E n0 n_base n_bound n_depth n_disk n_halted n_isThere n_labelAddress n_labelFrom n_labelSize n_made n_memory n_mode n_output n_outs n_pc n_ranOut n_register n_size n_steps n_tape n_timer n_typed n_waits n_wants H.size ztaped zat_4 zend zline zlabels zfault zfaultLine zisTold zaddress zmissing zgood_4 zvalue zvalueFrom zvalueSize zme ztape zat_4 r_6 q_6
    have hr := jrunV (p := p) (e := e) (below := below) (R := ({ frames := 2, cells := 0, slots := 0, locals := 41 })) (cells := 0) (slots := 0) (As := [.int zat_4]) (rest := [.ref n0]) J hJ hA hZ hP hD hS hq [0, 1] rfl (by decide) gl_MD_98 gi_MD_byteAt gsel_MD_byteAt gini_MD gc_MD_byteAt hd_MD_byteAt ⟨rfl, rfl, Nat.le_of_ble_eq_true rfl, Nat.le_of_ble_eq_true rfl⟩ rfl rfl hl.1 rfl rfl (Nat.le_of_ble_eq_true rfl) d_MD_register_17 ⟨Nat.zero_le _, Nat.zero_le _⟩
    clear hq
    refine jk_i hr hA hP hD hS [0, 1] [] (WR := []) rfl rfl (by decide) (by decide) [0, 1] (WF := [(n0, .inr (6, [.ref n_tape, .int ztaped, .ref n_isThere, .ref n_size, .ref n_depth, .ref n_memory, .ref n_register, .ref n_mode, .ref n_pc, .ref n_base, .ref n_bound, .ref n_timer, .ref n_ranOut, .ref n_halted, .ref n_steps, .ref n_outs, .ref n_output, .ref n_waits, .ref n_typed, .ref n_disk, .ref n_wants, .int zat_4, .int zend, .int zline, .ref n_labelFrom, .ref n_labelSize, .ref n_labelAddress, .int zlabels, .int zfault, .int zfaultLine, .int zisTold, .int zaddress, .ref n_made, .int zmissing, .int zgood_4, .int zvalue, .int zvalueFrom, .int zvalueSize, .int zme])), (n_tape, .inl (E.2.1 2, 3000, .inl ztape))]) rfl (by decide) ?_
    clear hP hD hS
    intro H locs hP hD hS
    clear hr
    refine lv_bipush (v := 114) J.1 J.2.1 d_MD_register_20 (by decide) ?_
    refine lv_icmp_ne (tgt := 59) J.1 J.2.1 d_MD_register_22 (by decide) (fun c_7 => ?_) (fun c_7 => ?_)
    · replace h := g_f c_7 h
      refine lv_iconst (v := 0) J.1 J.2.1 d_MD_register_59 (by decide) ?_
      refine jp J hJ hP hD hS 0 rfl rfl i_MD t_MD t_MD_ok n_MD 34 (by decide) gf_MD_177 rfl rfl rfl (Nat.le_of_ble_eq_true rfl) d_MD_register_60 (WS' := [(n0, .inr (6, [.ref n_tape, .int ztaped, .ref n_isThere, .ref n_size, .ref n_depth, .ref n_memory, .ref n_register, .ref n_mode, .ref n_pc, .ref n_base, .ref n_bound, .ref n_timer, .ref n_ranOut, .ref n_halted, .ref n_steps, .ref n_outs, .ref n_output, .ref n_waits, .ref n_typed, .ref n_disk, .ref n_wants, .int zat_4, .int zend, .int zline, .ref n_labelFrom, .ref n_labelSize, .ref n_labelAddress, .int zlabels, .int zfault, .int zfaultLine, .int zisTold, .int zaddress, .ref n_made, .int zmissing, .int 0, .int zvalue, .int zvalueFrom, .int zvalueSize, .int zme])), (n_tape, .inl (E.2.1 2, 3000, .inl ztape))]) rfl ?_
      clear hP hD hS
      intro H locs hP hD hS
      exact kb_MD_register_63 J hJ hA hZ _ _ _ _ _ _ _ _ _ _ _ _ _ _ _ _ _ _ _ h hP hD hS (lv_sub hl [0] rfl)
    · replace h := g_t c_7 h
      refine lv_aload_n J.1 J.2.1 d_MD_register_25 rfl (lv_at hl 0 rfl) ?_
      refine lv_aload_n J.1 J.2.1 d_MD_register_26 rfl (lv_at hl 0 rfl) ?_
      refine jg J hJ hP 0 rfl rfl i_MD 21 (by decide) gf_MD_95 rfl d_MD_register_27 ?_
      refine lv_iconst (v := 1) J.1 J.2.1 d_MD_register_30 (by decide) ?_
      refine lv_iadd J.1 J.2.1 d_MD_register_31 ?_
      replace h := g_bd h
      obtain ⟨r_8, q_8, h⟩ := h
      have hq := ct_MD_byteAt l E n0 n_base n_bound n_depth n_disk n_halted n_isThere n_labelAddress n_labelFrom n_labelSize n_made n_memory n_mode n_output n_outs n_pc n_ranOut n_register n_size n_steps n_tape n_timer n_typed n_waits n_wants H.size ztaped zat_4 zend zline zlabels zfault zfaultLine zisTold zaddress zmissing zgood_4 zvalue zvalueFrom zvalueSize zme ztape (zat_4 + 1) r_8 q_8
      have hr := jrunV (p := p) (e := e) (below := below) (R := ({ frames := 2, cells := 0, slots := 0, locals := 41 })) (cells := 0) (slots := 0) (As := [.int (zat_4 + 1)]) (rest := [.ref n0]) J hJ hA hZ hP hD hS hq [0, 1] rfl (by decide) gl_MD_98 gi_MD_byteAt gsel_MD_byteAt gini_MD gc_MD_byteAt hd_MD_byteAt ⟨rfl, rfl, Nat.le_of_ble_eq_true rfl, Nat.le_of_ble_eq_true rfl⟩ rfl rfl hl.1 rfl rfl (Nat.le_of_ble_eq_true rfl) d_MD_register_32 ⟨Nat.zero_le _, Nat.zero_le _⟩
      clear hq
      refine jk_i hr hA hP hD hS [0, 1] [] (WR := []) rfl rfl (by decide) (by decide) [0, 1] (WF := [(n0, .inr (6, [.ref n_tape, .int ztaped, .ref n_isThere, .ref n_size, .ref n_depth, .ref n_memory, .ref n_register, .ref n_mode, .ref n_pc, .ref n_base, .ref n_bound, .ref n_timer, .ref n_ranOut, .ref n_halted, .ref n_steps, .ref n_outs, .ref n_output, .ref n_waits, .ref n_typed, .ref n_disk, .ref n_wants, .int zat_4, .int zend, .int zline, .ref n_labelFrom, .ref n_labelSize, .ref n_labelAddress, .int zlabels, .int zfault, .int zfaultLine, .int zisTold, .int zaddress, .ref n_made, .int zmissing, .int zgood_4, .int zvalue, .int zvalueFrom, .int zvalueSize, .int zme])), (n_tape, .inl (E.2.1 2, 3000, .inl ztape))]) rfl (by decide) ?_
      clear hP hD hS
      intro H locs hP hD hS
      clear hr
      refine lv_bipush (v := 48) J.1 J.2.1 d_MD_register_35 (by decide) ?_
      refine lv_icmp_lt (tgt := 59) J.1 J.2.1 d_MD_register_37 (by decide) (fun c_9 => ?_) (fun c_9 => ?_)
      · replace h := g_t c_9 h
        refine lv_iconst (v := 0) J.1 J.2.1 d_MD_register_59 (by decide) ?_
        refine jp J hJ hP hD hS 0 rfl rfl i_MD t_MD t_MD_ok n_MD 34 (by decide) gf_MD_177 rfl rfl rfl (Nat.le_of_ble_eq_true rfl) d_MD_register_60 (WS' := [(n0, .inr (6, [.ref n_tape, .int ztaped, .ref n_isThere, .ref n_size, .ref n_depth, .ref n_memory, .ref n_register, .ref n_mode, .ref n_pc, .ref n_base, .ref n_bound, .ref n_timer, .ref n_ranOut, .ref n_halted, .ref n_steps, .ref n_outs, .ref n_output, .ref n_waits, .ref n_typed, .ref n_disk, .ref n_wants, .int zat_4, .int zend, .int zline, .ref n_labelFrom, .ref n_labelSize, .ref n_labelAddress, .int zlabels, .int zfault, .int zfaultLine, .int zisTold, .int zaddress, .ref n_made, .int zmissing, .int 0, .int zvalue, .int zvalueFrom, .int zvalueSize, .int zme])), (n_tape, .inl (E.2.1 2, 3000, .inl ztape))]) rfl ?_
        clear hP hD hS
        intro H locs hP hD hS
        exact kb_MD_register_63 J hJ hA hZ _ _ _ _ _ _ _ _ _ _ _ _ _ _ _ _ _ _ _ h hP hD hS (lv_sub hl [0] rfl)
      · replace h := g_f c_9 h
        refine lv_aload_n J.1 J.2.1 d_MD_register_40 rfl (lv_at hl 0 rfl) ?_
        refine lv_aload_n J.1 J.2.1 d_MD_register_41 rfl (lv_at hl 0 rfl) ?_
        refine jg J hJ hP 0 rfl rfl i_MD 21 (by decide) gf_MD_95 rfl d_MD_register_42 ?_
        refine lv_iconst (v := 1) J.1 J.2.1 d_MD_register_45 (by decide) ?_
        refine lv_iadd J.1 J.2.1 d_MD_register_46 ?_
        replace h := g_bd h
        obtain ⟨r_10, q_10, h⟩ := h
        have hq := ct_MD_byteAt l E n0 n_base n_bound n_depth n_disk n_halted n_isThere n_labelAddress n_labelFrom n_labelSize n_made n_memory n_mode n_output n_outs n_pc n_ranOut n_register n_size n_steps n_tape n_timer n_typed n_waits n_wants H.size ztaped zat_4 zend zline zlabels zfault zfaultLine zisTold zaddress zmissing zgood_4 zvalue zvalueFrom zvalueSize zme ztape (zat_4 + 1) r_10 q_10
        have hr := jrunV (p := p) (e := e) (below := below) (R := ({ frames := 2, cells := 0, slots := 0, locals := 41 })) (cells := 0) (slots := 0) (As := [.int (zat_4 + 1)]) (rest := [.ref n0]) J hJ hA hZ hP hD hS hq [0, 1] rfl (by decide) gl_MD_98 gi_MD_byteAt gsel_MD_byteAt gini_MD gc_MD_byteAt hd_MD_byteAt ⟨rfl, rfl, Nat.le_of_ble_eq_true rfl, Nat.le_of_ble_eq_true rfl⟩ rfl rfl hl.1 rfl rfl (Nat.le_of_ble_eq_true rfl) d_MD_register_47 ⟨Nat.zero_le _, Nat.zero_le _⟩
        clear hq
        refine jk_i hr hA hP hD hS [0, 1] [] (WR := []) rfl rfl (by decide) (by decide) [0, 1] (WF := [(n0, .inr (6, [.ref n_tape, .int ztaped, .ref n_isThere, .ref n_size, .ref n_depth, .ref n_memory, .ref n_register, .ref n_mode, .ref n_pc, .ref n_base, .ref n_bound, .ref n_timer, .ref n_ranOut, .ref n_halted, .ref n_steps, .ref n_outs, .ref n_output, .ref n_waits, .ref n_typed, .ref n_disk, .ref n_wants, .int zat_4, .int zend, .int zline, .ref n_labelFrom, .ref n_labelSize, .ref n_labelAddress, .int zlabels, .int zfault, .int zfaultLine, .int zisTold, .int zaddress, .ref n_made, .int zmissing, .int zgood_4, .int zvalue, .int zvalueFrom, .int zvalueSize, .int zme])), (n_tape, .inl (E.2.1 2, 3000, .inl ztape))]) rfl (by decide) ?_
        clear hP hD hS
        intro H locs hP hD hS
        clear hr
        refine lv_bipush (v := 55) J.1 J.2.1 d_MD_register_50 (by decide) ?_
        refine lv_icmp_gt (tgt := 59) J.1 J.2.1 d_MD_register_52 (by decide) (fun c_11 => ?_) (fun c_11 => ?_)
        · replace h := g_t c_11 h
          refine lv_iconst (v := 0) J.1 J.2.1 d_MD_register_59 (by decide) ?_
          refine jp J hJ hP hD hS 0 rfl rfl i_MD t_MD t_MD_ok n_MD 34 (by decide) gf_MD_177 rfl rfl rfl (Nat.le_of_ble_eq_true rfl) d_MD_register_60 (WS' := [(n0, .inr (6, [.ref n_tape, .int ztaped, .ref n_isThere, .ref n_size, .ref n_depth, .ref n_memory, .ref n_register, .ref n_mode, .ref n_pc, .ref n_base, .ref n_bound, .ref n_timer, .ref n_ranOut, .ref n_halted, .ref n_steps, .ref n_outs, .ref n_output, .ref n_waits, .ref n_typed, .ref n_disk, .ref n_wants, .int zat_4, .int zend, .int zline, .ref n_labelFrom, .ref n_labelSize, .ref n_labelAddress, .int zlabels, .int zfault, .int zfaultLine, .int zisTold, .int zaddress, .ref n_made, .int zmissing, .int 0, .int zvalue, .int zvalueFrom, .int zvalueSize, .int zme])), (n_tape, .inl (E.2.1 2, 3000, .inl ztape))]) rfl ?_
          clear hP hD hS
          intro H locs hP hD hS
          exact kb_MD_register_63 J hJ hA hZ _ _ _ _ _ _ _ _ _ _ _ _ _ _ _ _ _ _ _ h hP hD hS (lv_sub hl [0] rfl)
        · replace h := g_f c_11 h
          refine lv_iconst (v := 1) J.1 J.2.1 d_MD_register_55 (by decide) ?_
          refine lv_goto (tgt := 60) J.1 J.2.1 d_MD_register_56 (by decide) ?_
          refine jp J hJ hP hD hS 0 rfl rfl i_MD t_MD t_MD_ok n_MD 34 (by decide) gf_MD_177 rfl rfl rfl (Nat.le_of_ble_eq_true rfl) d_MD_register_60 (WS' := [(n0, .inr (6, [.ref n_tape, .int ztaped, .ref n_isThere, .ref n_size, .ref n_depth, .ref n_memory, .ref n_register, .ref n_mode, .ref n_pc, .ref n_base, .ref n_bound, .ref n_timer, .ref n_ranOut, .ref n_halted, .ref n_steps, .ref n_outs, .ref n_output, .ref n_waits, .ref n_typed, .ref n_disk, .ref n_wants, .int zat_4, .int zend, .int zline, .ref n_labelFrom, .ref n_labelSize, .ref n_labelAddress, .int zlabels, .int zfault, .int zfaultLine, .int zisTold, .int zaddress, .ref n_made, .int zmissing, .int 1, .int zvalue, .int zvalueFrom, .int zvalueSize, .int zme])), (n_tape, .inl (E.2.1 2, 3000, .inl ztape))]) rfl ?_
          clear hP hD hS
          intro H locs hP hD hS
          exact kb_MD_register_63 J hJ hA hZ _ _ _ _ _ _ _ _ _ _ _ _ _ _ _ _ _ _ _ h hP hD hS (lv_sub hl [0] rfl)

theorem hd_MD_number : y_MD_number.cls ≠ "java/lang/invoke/MethodHandle" ∧ y_MD_number.cls ≠ "java/lang/invoke/VarHandle" ∧ (parseMethodDescriptor y_MD_number.desc).map (fun d => d.parameters.length) = some 0 := by decide +kernel
def b_MD_number_4 : Nat → Int32 → Int32 → Int32 → (Nat → Int32) → Int32 → Int32 → Option (Int32 × Int32 × Int32)
  | 0, _, _, _, _, _, _ => none
  | n + 1, zat, zend, zgood, ztape, x1, x2 => ((f_MD_byteAt zend ztape zat).bind fun r_1 => ((f_MD_isDigit  r_1).bind fun r_2 => (if r_2 = (0 : Int32) then (if zgood = (0 : Int32) then (some (x1, zat, 0)) else (if x2 ≤ (0 : Int32) then (some (x1, zat, 0)) else (if (6 : Int32) ≤ x2 then (some (x1, zat, 0)) else (if (65536 : Int32) ≤ x1 then (some (x1, zat, 0)) else (some (x1, zat, 1)))))) else (if (6 : Int32) ≤ x2 then b_MD_number_4 n (zat + 1) zend zgood ztape x1 (x2 + 1) else ((f_MD_byteAt zend ztape zat).bind fun r_9 => b_MD_number_4 n (zat + 1) zend zgood ztape (((10 * x1) + r_9) - 48) (x2 + 1))))))
def f_MD_number (zat : Int32) (zend : Int32) (zgood : Int32) (ztape : Nat → Int32) : Option (Int32 × Int32 × Int32) := b_MD_number_4 65536 zat zend zgood ztape 0 0
set_option maxHeartbeats 4000000 in
set_option maxRecDepth 100000 in
theorem kb_MD_number_4 {p : Program} {l : Launch} {e : Env} {s : State} {m : MethodId} {below : List Frame} {meth : Method} {c : Code} {A : Nat → Prop} {E : jz_E} {n0 n_base n_bound n_depth n_disk n_halted n_isThere n_labelAddress n_labelFrom n_labelSize n_made n_memory n_mode n_output n_outs n_pc n_ranOut n_register n_size n_steps n_tape n_timer n_typed n_waits n_wants : Nat} {o_r : Int32} {o_zat : Int32} {o_zgood : Int32} (J : JC p s m ([.ref n0] : List Value).toArray meth c c_MD_number 3 (some .int) y_MD_number.cls) (hJ : jE E s) (hA : ∀ q : Nat, s.heap.size ≤ q → A q) (hZ : jz_ok E A s s.heap) : ∀ (n : Nat) (ztaped : Int32) (zat : Int32) (zend : Int32) (zline : Int32) (zlabels : Int32) (zfault : Int32) (zfaultLine : Int32) (zisTold : Int32) (zaddress : Int32) (zmissing : Int32) (zgood : Int32) (zvalue : Int32) (zvalueFrom : Int32) (zvalueSize : Int32) (zme : Int32) (ztape : Nat → Int32) (x1 : Int32) (x2 : Int32) (H : Heap) (locs : List Loc) (ls : Array Slot), b_MD_number_4 n zat zend zgood ztape x1 x2 = some (o_r, o_zat, o_zgood) → va_P E.1 classes [(n0, .inr (6, [.ref n_tape, .int ztaped, .ref n_isThere, .ref n_size, .ref n_depth, .ref n_memory, .ref n_register, .ref n_mode, .ref n_pc, .ref n_base, .ref n_bound, .ref n_timer, .ref n_ranOut, .ref n_halted, .ref n_steps, .ref n_outs, .ref n_output, .ref n_waits, .ref n_typed, .ref n_disk, .ref n_wants, .int zat, .int zend, .int zline, .ref n_labelFrom, .ref n_labelSize, .ref n_labelAddress, .int zlabels, .int zfault, .int zfaultLine, .int zisTold, .int zaddress, .ref n_made, .int zmissing, .int zgood, .int zvalue, .int zvalueFrom, .int zvalueSize, .int zme])), (n_tape, .inl (E.2.1 2, 3000, .inl ztape))] H → va_D A [(n0, .inr (6, [.ref n_tape, .int ztaped, .ref n_isThere, .ref n_size, .ref n_depth, .ref n_memory, .ref n_register, .ref n_mode, .ref n_pc, .ref n_base, .ref n_bound, .ref n_timer, .ref n_ranOut, .ref n_halted, .ref n_steps, .ref n_outs, .ref n_output, .ref n_waits, .ref n_typed, .ref n_disk, .ref n_wants, .int zat, .int zend, .int zline, .ref n_labelFrom, .ref n_labelSize, .ref n_labelAddress, .int zlabels, .int zfault, .int zfaultLine, .int zisTold, .int zaddress, .ref n_made, .int zmissing, .int zgood, .int zvalue, .int zvalueFrom, .int zvalueSize, .int zme])), (n_tape, .inl (E.2.1 2, 3000, .inl ztape))] → va_S A s.heap H locs → lv_has ls 3 [(0, .ref n0), (1, .int x1), (2, .int x2)] → W p l e ({ frames := 1, cells := 0, slots := 0, locals := 21 }) s m ([.ref n0] : List Value).toArray below meth c H locs 0 0 (MQ below (va_Qi (fun (r' : Int32) (u : va_W) => r' = o_r ∧ u = [(n0, .inr (6, [.ref n_tape, .int ztaped, .ref n_isThere, .ref n_size, .ref n_depth, .ref n_memory, .ref n_register, .ref n_mode, .ref n_pc, .ref n_base, .ref n_bound, .ref n_timer, .ref n_ranOut, .ref n_halted, .ref n_steps, .ref n_outs, .ref n_output, .ref n_waits, .ref n_typed, .ref n_disk, .ref n_wants, .int o_zat, .int zend, .int zline, .ref n_labelFrom, .ref n_labelSize, .ref n_labelAddress, .int zlabels, .int zfault, .int zfaultLine, .int zisTold, .int zaddress, .ref n_made, .int zmissing, .int o_zgood, .int zvalue, .int zvalueFrom, .int zvalueSize, .int zme])), (n_tape, .inl (E.2.1 2, 3000, .inl ztape))]) (BW E A) A) ([.ref n0] : List Value).toArray s 0 0 A) (F0 m 4 ls []) := by
  intro n
  induction n with
  | zero => intro ztaped zat zend zline zlabels zfault zfaultLine zisTold zaddress zmissing zgood zvalue zvalueFrom zvalueSize zme ztape x1 x2 H locs ls h; cases h
  | succ n ih =>
    intro ztaped zat zend zline zlabels zfault zfaultLine zisTold zaddress zmissing zgood zvalue zvalueFrom zvalueSize zme ztape x1 x2 H locs ls h hP hD hS hl
    rw [b_MD_number_4] at h
    refine lv_aload_n J.1 J.2.1 d_MD_number_4 rfl (lv_at hl 0 rfl) ?_
    refine lv_aload_n J.1 J.2.1 d_MD_number_5 rfl (lv_at hl 0 rfl) ?_
    refine jg J hJ hP 0 rfl rfl i_MD 21 (by decide) gf_MD_95 rfl d_MD_number_6 ?_
    replace h := g_bd h
    obtain ⟨r_1, q_1, h⟩ := h
    have hq := ct_MD_byteAt l E n0 n_base n_bound n_depth n_disk n_halted n_isThere n_labelAddress n_labelFrom n_labelSize n_made n_memory n_mode n_output n_outs n_pc n_ranOut n_register n_size n_steps n_tape n_timer n_typed n_waits n_wants H.size ztaped zat zend zline zlabels zfault zfaultLine zisTold zaddress zmissing zgood zvalue zvalueFrom zvalueSize zme ztape zat r_1 q_1
    have hr := jrunV (p := p) (e := e) (below := below) (R := ({ frames := 1, cells := 0, slots := 0, locals := 21 })) (cells := 0) (slots := 0) (As := [.int zat]) (rest := []) J hJ hA hZ hP hD hS hq [0, 1] rfl (by decide) gl_MD_98 gi_MD_byteAt gsel_MD_byteAt gini_MD gc_MD_byteAt hd_MD_byteAt ⟨rfl, rfl, Nat.le_of_ble_eq_true rfl, Nat.le_of_ble_eq_true rfl⟩ rfl rfl hl.1 rfl rfl (Nat.le_of_ble_eq_true rfl) d_MD_number_9 ⟨Nat.zero_le _, Nat.zero_le _⟩
    clear hq
    refine jk_i hr hA hP hD hS [0, 1] [] (WR := []) rfl rfl (by decide) (by decide) [0, 1] (WF := [(n0, .inr (6, [.ref n_tape, .int ztaped, .ref n_isThere, .ref n_size, .ref n_depth, .ref n_memory, .ref n_register, .ref n_mode, .ref n_pc, .ref n_base, .ref n_bound, .ref n_timer, .ref n_ranOut, .ref n_halted, .ref n_steps, .ref n_outs, .ref n_output, .ref n_waits, .ref n_typed, .ref n_disk, .ref n_wants, .int zat, .int zend, .int zline, .ref n_labelFrom, .ref n_labelSize, .ref n_labelAddress, .int zlabels, .int zfault, .int zfaultLine, .int zisTold, .int zaddress, .ref n_made, .int zmissing, .int zgood, .int zvalue, .int zvalueFrom, .int zvalueSize, .int zme])), (n_tape, .inl (E.2.1 2, 3000, .inl ztape))]) rfl (by decide) ?_
    clear hP hD hS
    intro H locs hP hD hS
    clear hr
    replace h := g_bd h
    obtain ⟨r_2, q_2, h⟩ := h
    have hq := ct_MD_isDigit l E  H.size  r_1 r_2 q_2
    have hr := jrunS (p := p) (e := e) (below := below) (R := ({ frames := 1, cells := 0, slots := 0, locals := 21 })) (cells := 0) (slots := 0) (As := [.int r_1]) (rest := []) J hJ hA hZ hP hD hS hq [] rfl (by decide) gl_MD_106 gs_MD_isDigit gini_MD gc_MD_isDigit hd_MD_isDigit ⟨rfl, rfl, Nat.le_of_ble_eq_true rfl, Nat.le_of_ble_eq_true rfl⟩ hl.1 rfl rfl (Nat.le_of_ble_eq_true rfl) d_MD_number_12 ⟨Nat.zero_le _, Nat.zero_le _⟩
    clear hq
    refine jk_i hr hA hP hD hS [] [0, 1] (WR := [(n0, .inr (6, [.ref n_tape, .int ztaped, .ref n_isThere, .ref n_size, .ref n_depth, .ref n_memory, .ref n_register, .ref n_mode, .ref n_pc, .ref n_base, .ref n_bound, .ref n_timer, .ref n_ranOut, .ref n_halted, .ref n_steps, .ref n_outs, .ref n_output, .ref n_waits, .ref n_typed, .ref n_disk, .ref n_wants, .int zat, .int zend, .int zline, .ref n_labelFrom, .ref n_labelSize, .ref n_labelAddress, .int zlabels, .int zfault, .int zfaultLine, .int zisTold, .int zaddress, .ref n_made, .int zmissing, .int zgood, .int zvalue, .int zvalueFrom, .int zvalueSize, .int zme])), (n_tape, .inl (E.2.1 2, 3000, .inl ztape))]) rfl rfl (by decide) (by decide) [0, 1] (WF := [(n0, .inr (6, [.ref n_tape, .int ztaped, .ref n_isThere, .ref n_size, .ref n_depth, .ref n_memory, .ref n_register, .ref n_mode, .ref n_pc, .ref n_base, .ref n_bound, .ref n_timer, .ref n_ranOut, .ref n_halted, .ref n_steps, .ref n_outs, .ref n_output, .ref n_waits, .ref n_typed, .ref n_disk, .ref n_wants, .int zat, .int zend, .int zline, .ref n_labelFrom, .ref n_labelSize, .ref n_labelAddress, .int zlabels, .int zfault, .int zfaultLine, .int zisTold, .int zaddress, .ref n_made, .int zmissing, .int zgood, .int zvalue, .int zvalueFrom, .int zvalueSize, .int zme])), (n_tape, .inl (E.2.1 2, 3000, .inl ztape))]) rfl (by decide) ?_
    clear hP hD hS
    intro H locs hP hD hS
    clear hr
    refine lv_if_eq (tgt := 57) J.1 J.2.1 d_MD_number_15 (by decide) (fun c_3 => ?_) (fun c_3 => ?_)
    · replace h := g_t c_3 h
      refine lv_aload_n J.1 J.2.1 d_MD_number_57 rfl (lv_at hl 0 rfl) ?_
      refine lv_aload_n J.1 J.2.1 d_MD_number_58 rfl (lv_at hl 0 rfl) ?_
      refine jg J hJ hP 0 rfl rfl i_MD 34 (by decide) gf_MD_177 rfl d_MD_number_59 ?_
      refine lv_if_eq (tgt := 85) J.1 J.2.1 d_MD_number_62 (by decide) (fun c_4 => ?_) (fun c_4 => ?_)
      · replace h := g_t c_4 h
        refine lv_iconst (v := 0) J.1 J.2.1 d_MD_number_85 (by decide) ?_
        refine jp J hJ hP hD hS 0 rfl rfl i_MD t_MD t_MD_ok n_MD 34 (by decide) gf_MD_177 rfl rfl rfl (Nat.le_of_ble_eq_true rfl) d_MD_number_86 (WS' := [(n0, .inr (6, [.ref n_tape, .int ztaped, .ref n_isThere, .ref n_size, .ref n_depth, .ref n_memory, .ref n_register, .ref n_mode, .ref n_pc, .ref n_base, .ref n_bound, .ref n_timer, .ref n_ranOut, .ref n_halted, .ref n_steps, .ref n_outs, .ref n_output, .ref n_waits, .ref n_typed, .ref n_disk, .ref n_wants, .int zat, .int zend, .int zline, .ref n_labelFrom, .ref n_labelSize, .ref n_labelAddress, .int zlabels, .int zfault, .int zfaultLine, .int zisTold, .int zaddress, .ref n_made, .int zmissing, .int 0, .int zvalue, .int zvalueFrom, .int zvalueSize, .int zme])), (n_tape, .inl (E.2.1 2, 3000, .inl ztape))]) rfl ?_
        clear hP hD hS
        intro H locs hP hD hS
        refine lv_iload_n J.1 J.2.1 d_MD_number_89 rfl (lv_at hl 1 rfl) ?_
        have h := Option.some.inj h
        have e_0 := (Prod.mk.inj h).1
        have h := (Prod.mk.inj h).2
        have e_1 := (Prod.mk.inj h).1
        have h := (Prod.mk.inj h).2
        rw [← e_0, ← e_1, ← h]
        exact jr_i J hS hP hD rfl d_MD_number_90
      · replace h := g_f c_4 h
        refine lv_iload_n J.1 J.2.1 d_MD_number_65 rfl (lv_at hl 2 rfl) ?_
        refine lv_if_le (tgt := 85) J.1 J.2.1 d_MD_number_66 (by decide) (fun c_5 => ?_) (fun c_5 => ?_)
        · replace h := g_t c_5 h
          refine lv_iconst (v := 0) J.1 J.2.1 d_MD_number_85 (by decide) ?_
          refine jp J hJ hP hD hS 0 rfl rfl i_MD t_MD t_MD_ok n_MD 34 (by decide) gf_MD_177 rfl rfl rfl (Nat.le_of_ble_eq_true rfl) d_MD_number_86 (WS' := [(n0, .inr (6, [.ref n_tape, .int ztaped, .ref n_isThere, .ref n_size, .ref n_depth, .ref n_memory, .ref n_register, .ref n_mode, .ref n_pc, .ref n_base, .ref n_bound, .ref n_timer, .ref n_ranOut, .ref n_halted, .ref n_steps, .ref n_outs, .ref n_output, .ref n_waits, .ref n_typed, .ref n_disk, .ref n_wants, .int zat, .int zend, .int zline, .ref n_labelFrom, .ref n_labelSize, .ref n_labelAddress, .int zlabels, .int zfault, .int zfaultLine, .int zisTold, .int zaddress, .ref n_made, .int zmissing, .int 0, .int zvalue, .int zvalueFrom, .int zvalueSize, .int zme])), (n_tape, .inl (E.2.1 2, 3000, .inl ztape))]) rfl ?_
          clear hP hD hS
          intro H locs hP hD hS
          refine lv_iload_n J.1 J.2.1 d_MD_number_89 rfl (lv_at hl 1 rfl) ?_
          have h := Option.some.inj h
          have e_0 := (Prod.mk.inj h).1
          have h := (Prod.mk.inj h).2
          have e_1 := (Prod.mk.inj h).1
          have h := (Prod.mk.inj h).2
          rw [← e_0, ← e_1, ← h]
          exact jr_i J hS hP hD rfl d_MD_number_90
        · replace h := g_f c_5 h
          refine lv_iload_n J.1 J.2.1 d_MD_number_69 rfl (lv_at hl 2 rfl) ?_
          refine lv_bipush (v := 6) J.1 J.2.1 d_MD_number_70 (by decide) ?_
          refine lv_icmp_ge (tgt := 85) J.1 J.2.1 d_MD_number_72 (by decide) (fun c_6 => ?_) (fun c_6 => ?_)
          · replace h := g_t c_6 h
            refine lv_iconst (v := 0) J.1 J.2.1 d_MD_number_85 (by decide) ?_
            refine jp J hJ hP hD hS 0 rfl rfl i_MD t_MD t_MD_ok n_MD 34 (by decide) gf_MD_177 rfl rfl rfl (Nat.le_of_ble_eq_true rfl) d_MD_number_86 (WS' := [(n0, .inr (6, [.ref n_tape, .int ztaped, .ref n_isThere, .ref n_size, .ref n_depth, .ref n_memory, .ref n_register, .ref n_mode, .ref n_pc, .ref n_base, .ref n_bound, .ref n_timer, .ref n_ranOut, .ref n_halted, .ref n_steps, .ref n_outs, .ref n_output, .ref n_waits, .ref n_typed, .ref n_disk, .ref n_wants, .int zat, .int zend, .int zline, .ref n_labelFrom, .ref n_labelSize, .ref n_labelAddress, .int zlabels, .int zfault, .int zfaultLine, .int zisTold, .int zaddress, .ref n_made, .int zmissing, .int 0, .int zvalue, .int zvalueFrom, .int zvalueSize, .int zme])), (n_tape, .inl (E.2.1 2, 3000, .inl ztape))]) rfl ?_
            clear hP hD hS
            intro H locs hP hD hS
            refine lv_iload_n J.1 J.2.1 d_MD_number_89 rfl (lv_at hl 1 rfl) ?_
            have h := Option.some.inj h
            have e_0 := (Prod.mk.inj h).1
            have h := (Prod.mk.inj h).2
            have e_1 := (Prod.mk.inj h).1
            have h := (Prod.mk.inj h).2
            rw [← e_0, ← e_1, ← h]
            exact jr_i J hS hP hD rfl d_MD_number_90
          · replace h := g_f c_6 h
            refine lv_iload_n J.1 J.2.1 d_MD_number_75 rfl (lv_at hl 1 rfl) ?_
            refine lv_ldc (v := 65536) J.1 J.2.1 J.2.2.2.2.1 (J.2.2.2.2.2.1 _ gk_MD_187) d_MD_number_76 ?_
            refine lv_icmp_ge (tgt := 85) J.1 J.2.1 d_MD_number_78 (by decide) (fun c_7 => ?_) (fun c_7 => ?_)
            · replace h := g_t c_7 h
              refine lv_iconst (v := 0) J.1 J.2.1 d_MD_number_85 (by decide) ?_
              refine jp J hJ hP hD hS 0 rfl rfl i_MD t_MD t_MD_ok n_MD 34 (by decide) gf_MD_177 rfl rfl rfl (Nat.le_of_ble_eq_true rfl) d_MD_number_86 (WS' := [(n0, .inr (6, [.ref n_tape, .int ztaped, .ref n_isThere, .ref n_size, .ref n_depth, .ref n_memory, .ref n_register, .ref n_mode, .ref n_pc, .ref n_base, .ref n_bound, .ref n_timer, .ref n_ranOut, .ref n_halted, .ref n_steps, .ref n_outs, .ref n_output, .ref n_waits, .ref n_typed, .ref n_disk, .ref n_wants, .int zat, .int zend, .int zline, .ref n_labelFrom, .ref n_labelSize, .ref n_labelAddress, .int zlabels, .int zfault, .int zfaultLine, .int zisTold, .int zaddress, .ref n_made, .int zmissing, .int 0, .int zvalue, .int zvalueFrom, .int zvalueSize, .int zme])), (n_tape, .inl (E.2.1 2, 3000, .inl ztape))]) rfl ?_
              clear hP hD hS
              intro H locs hP hD hS
              refine lv_iload_n J.1 J.2.1 d_MD_number_89 rfl (lv_at hl 1 rfl) ?_
              have h := Option.some.inj h
              have e_0 := (Prod.mk.inj h).1
              have h := (Prod.mk.inj h).2
              have e_1 := (Prod.mk.inj h).1
              have h := (Prod.mk.inj h).2
              rw [← e_0, ← e_1, ← h]
              exact jr_i J hS hP hD rfl d_MD_number_90
            · replace h := g_f c_7 h
              refine lv_iconst (v := 1) J.1 J.2.1 d_MD_number_81 (by decide) ?_
              refine lv_goto (tgt := 86) J.1 J.2.1 d_MD_number_82 (by decide) ?_
              refine jp J hJ hP hD hS 0 rfl rfl i_MD t_MD t_MD_ok n_MD 34 (by decide) gf_MD_177 rfl rfl rfl (Nat.le_of_ble_eq_true rfl) d_MD_number_86 (WS' := [(n0, .inr (6, [.ref n_tape, .int ztaped, .ref n_isThere, .ref n_size, .ref n_depth, .ref n_memory, .ref n_register, .ref n_mode, .ref n_pc, .ref n_base, .ref n_bound, .ref n_timer, .ref n_ranOut, .ref n_halted, .ref n_steps, .ref n_outs, .ref n_output, .ref n_waits, .ref n_typed, .ref n_disk, .ref n_wants, .int zat, .int zend, .int zline, .ref n_labelFrom, .ref n_labelSize, .ref n_labelAddress, .int zlabels, .int zfault, .int zfaultLine, .int zisTold, .int zaddress, .ref n_made, .int zmissing, .int 1, .int zvalue, .int zvalueFrom, .int zvalueSize, .int zme])), (n_tape, .inl (E.2.1 2, 3000, .inl ztape))]) rfl ?_
              clear hP hD hS
              intro H locs hP hD hS
              refine lv_iload_n J.1 J.2.1 d_MD_number_89 rfl (lv_at hl 1 rfl) ?_
              have h := Option.some.inj h
              have e_0 := (Prod.mk.inj h).1
              have h := (Prod.mk.inj h).2
              have e_1 := (Prod.mk.inj h).1
              have h := (Prod.mk.inj h).2
              rw [← e_0, ← e_1, ← h]
              exact jr_i J hS hP hD rfl d_MD_number_90
    · replace h := g_f c_3 h
      refine lv_iload_n J.1 J.2.1 d_MD_number_18 rfl (lv_at hl 2 rfl) ?_
      refine lv_bipush (v := 6) J.1 J.2.1 d_MD_number_19 (by decide) ?_
      refine lv_icmp_ge (tgt := 41) J.1 J.2.1 d_MD_number_21 (by decide) (fun c_8 => ?_) (fun c_8 => ?_)
      · replace h := g_t c_8 h
        refine lv_iinc (v := (x2 + 1)) (lv' := [(2, .int (x2 + 1)), (0, .ref n0), (1, .int x1)]) J.1 J.2.1 d_MD_number_41 hl (k := 2) rfl rfl (by decide) rfl ?_
        clear hl
        intro ls hl
        refine lv_aload_n J.1 J.2.1 d_MD_number_44 rfl (lv_at hl 1 rfl) ?_
        refine lv_dup J.1 J.2.1 d_MD_number_45 rfl ?_
        refine jg J hJ hP 0 rfl rfl i_MD 21 (by decide) gf_MD_95 rfl d_MD_number_46 ?_
        refine lv_iconst (v := 1) J.1 J.2.1 d_MD_number_49 (by decide) ?_
        refine lv_iadd J.1 J.2.1 d_MD_number_50 ?_
        refine jp J hJ hP hD hS 0 rfl rfl i_MD t_MD t_MD_ok n_MD 21 (by decide) gf_MD_95 rfl rfl rfl (Nat.le_of_ble_eq_true rfl) d_MD_number_51 (WS' := [(n0, .inr (6, [.ref n_tape, .int ztaped, .ref n_isThere, .ref n_size, .ref n_depth, .ref n_memory, .ref n_register, .ref n_mode, .ref n_pc, .ref n_base, .ref n_bound, .ref n_timer, .ref n_ranOut, .ref n_halted, .ref n_steps, .ref n_outs, .ref n_output, .ref n_waits, .ref n_typed, .ref n_disk, .ref n_wants, .int (zat + 1), .int zend, .int zline, .ref n_labelFrom, .ref n_labelSize, .ref n_labelAddress, .int zlabels, .int zfault, .int zfaultLine, .int zisTold, .int zaddress, .ref n_made, .int zmissing, .int zgood, .int zvalue, .int zvalueFrom, .int zvalueSize, .int zme])), (n_tape, .inl (E.2.1 2, 3000, .inl ztape))]) rfl ?_
        clear hP hD hS
        intro H locs hP hD hS
        refine lv_goto (tgt := 4) J.1 J.2.1 d_MD_number_54 (by decide) ?_
        exact ih _ _ _ _ _ _ _ _ _ _ _ _ _ _ _ _ _ _ _ _ _ h hP hD hS (lv_sub hl [1, 2, 0] rfl)
      · replace h := g_f c_8 h
        refine lv_bipush (v := 10) J.1 J.2.1 d_MD_number_24 (by decide) ?_
        refine lv_iload_n J.1 J.2.1 d_MD_number_26 rfl (lv_at hl 1 rfl) ?_
        refine lv_imul J.1 J.2.1 d_MD_number_27 ?_
        refine lv_aload_n J.1 J.2.1 d_MD_number_28 rfl (lv_at hl 0 rfl) ?_
        refine lv_aload_n J.1 J.2.1 d_MD_number_29 rfl (lv_at hl 0 rfl) ?_
        refine jg J hJ hP 0 rfl rfl i_MD 21 (by decide) gf_MD_95 rfl d_MD_number_30 ?_
        replace h := g_bd h
        obtain ⟨r_9, q_9, h⟩ := h
        have hq := ct_MD_byteAt l E n0 n_base n_bound n_depth n_disk n_halted n_isThere n_labelAddress n_labelFrom n_labelSize n_made n_memory n_mode n_output n_outs n_pc n_ranOut n_register n_size n_steps n_tape n_timer n_typed n_waits n_wants H.size ztaped zat zend zline zlabels zfault zfaultLine zisTold zaddress zmissing zgood zvalue zvalueFrom zvalueSize zme ztape zat r_9 q_9
        have hr := jrunV (p := p) (e := e) (below := below) (R := ({ frames := 1, cells := 0, slots := 0, locals := 21 })) (cells := 0) (slots := 0) (As := [.int zat]) (rest := [.int (10 * x1)]) J hJ hA hZ hP hD hS hq [0, 1] rfl (by decide) gl_MD_98 gi_MD_byteAt gsel_MD_byteAt gini_MD gc_MD_byteAt hd_MD_byteAt ⟨rfl, rfl, Nat.le_of_ble_eq_true rfl, Nat.le_of_ble_eq_true rfl⟩ rfl rfl hl.1 rfl rfl (Nat.le_of_ble_eq_true rfl) d_MD_number_33 ⟨Nat.zero_le _, Nat.zero_le _⟩
        clear hq
        refine jk_i hr hA hP hD hS [0, 1] [] (WR := []) rfl rfl (by decide) (by decide) [0, 1] (WF := [(n0, .inr (6, [.ref n_tape, .int ztaped, .ref n_isThere, .ref n_size, .ref n_depth, .ref n_memory, .ref n_register, .ref n_mode, .ref n_pc, .ref n_base, .ref n_bound, .ref n_timer, .ref n_ranOut, .ref n_halted, .ref n_steps, .ref n_outs, .ref n_output, .ref n_waits, .ref n_typed, .ref n_disk, .ref n_wants, .int zat, .int zend, .int zline, .ref n_labelFrom, .ref n_labelSize, .ref n_labelAddress, .int zlabels, .int zfault, .int zfaultLine, .int zisTold, .int zaddress, .ref n_made, .int zmissing, .int zgood, .int zvalue, .int zvalueFrom, .int zvalueSize, .int zme])), (n_tape, .inl (E.2.1 2, 3000, .inl ztape))]) rfl (by decide) ?_
        clear hP hD hS
        intro H locs hP hD hS
        clear hr
        refine lv_iadd J.1 J.2.1 d_MD_number_36 ?_
        refine lv_bipush (v := 48) J.1 J.2.1 d_MD_number_37 (by decide) ?_
        refine lv_isub J.1 J.2.1 d_MD_number_39 ?_
        refine lv_istore_n (lv' := [(1, .int (((10 * x1) + r_9) - 48)), (0, .ref n0), (2, .int x2)]) J.1 J.2.1 d_MD_number_40 rfl hl (by decide) rfl ?_
        clear hl
        intro ls hl
        refine lv_iinc (v := (x2 + 1)) (lv' := [(2, .int (x2 + 1)), (1, .int (((10 * x1) + r_9) - 48)), (0, .ref n0)]) J.1 J.2.1 d_MD_number_41 hl (k := 2) rfl rfl (by decide) rfl ?_
        clear hl
        intro ls hl
        refine lv_aload_n J.1 J.2.1 d_MD_number_44 rfl (lv_at hl 2 rfl) ?_
        refine lv_dup J.1 J.2.1 d_MD_number_45 rfl ?_
        refine jg J hJ hP 0 rfl rfl i_MD 21 (by decide) gf_MD_95 rfl d_MD_number_46 ?_
        refine lv_iconst (v := 1) J.1 J.2.1 d_MD_number_49 (by decide) ?_
        refine lv_iadd J.1 J.2.1 d_MD_number_50 ?_
        refine jp J hJ hP hD hS 0 rfl rfl i_MD t_MD t_MD_ok n_MD 21 (by decide) gf_MD_95 rfl rfl rfl (Nat.le_of_ble_eq_true rfl) d_MD_number_51 (WS' := [(n0, .inr (6, [.ref n_tape, .int ztaped, .ref n_isThere, .ref n_size, .ref n_depth, .ref n_memory, .ref n_register, .ref n_mode, .ref n_pc, .ref n_base, .ref n_bound, .ref n_timer, .ref n_ranOut, .ref n_halted, .ref n_steps, .ref n_outs, .ref n_output, .ref n_waits, .ref n_typed, .ref n_disk, .ref n_wants, .int (zat + 1), .int zend, .int zline, .ref n_labelFrom, .ref n_labelSize, .ref n_labelAddress, .int zlabels, .int zfault, .int zfaultLine, .int zisTold, .int zaddress, .ref n_made, .int zmissing, .int zgood, .int zvalue, .int zvalueFrom, .int zvalueSize, .int zme])), (n_tape, .inl (E.2.1 2, 3000, .inl ztape))]) rfl ?_
        clear hP hD hS
        intro H locs hP hD hS
        refine lv_goto (tgt := 4) J.1 J.2.1 d_MD_number_54 (by decide) ?_
        exact ih _ _ _ _ _ _ _ _ _ _ _ _ _ _ _ _ _ _ _ _ _ h hP hD hS (lv_sub hl [2, 1, 0] rfl)
set_option maxHeartbeats 4000000 in
set_option maxRecDepth 100000 in
theorem ct_MD_number (l : Launch) (E : jz_E) (n0 n_base n_bound n_depth n_disk n_halted n_isThere n_labelAddress n_labelFrom n_labelSize n_made n_memory n_mode n_output n_outs n_pc n_ranOut n_register n_size n_steps n_tape n_timer n_typed n_waits n_wants : Nat) (sz : Nat) (ztaped : Int32) (zat : Int32) (zend : Int32) (zline : Int32) (zlabels : Int32) (zfault : Int32) (zfaultLine : Int32) (zisTold : Int32) (zaddress : Int32) (zmissing : Int32) (zgood : Int32) (zvalue : Int32) (zvalueFrom : Int32) (zvalueSize : Int32) (zme : Int32) (ztape : Nat → Int32) (o_r : Int32) (o_zat : Int32) (o_zgood : Int32)  (h : f_MD_number zat zend zgood ztape = some (o_r, o_zat, o_zgood)) : CTi l E y_MD_number c_MD_number 3 (some .int) ({ frames := 1, cells := 0, slots := 0, locals := 21 }) [.ref n0] [(n0, .inr (6, [.ref n_tape, .int ztaped, .ref n_isThere, .ref n_size, .ref n_depth, .ref n_memory, .ref n_register, .ref n_mode, .ref n_pc, .ref n_base, .ref n_bound, .ref n_timer, .ref n_ranOut, .ref n_halted, .ref n_steps, .ref n_outs, .ref n_output, .ref n_waits, .ref n_typed, .ref n_disk, .ref n_wants, .int zat, .int zend, .int zline, .ref n_labelFrom, .ref n_labelSize, .ref n_labelAddress, .int zlabels, .int zfault, .int zfaultLine, .int zisTold, .int zaddress, .ref n_made, .int zmissing, .int zgood, .int zvalue, .int zvalueFrom, .int zvalueSize, .int zme])), (n_tape, .inl (E.2.1 2, 3000, .inl ztape))] sz o_r [(n0, .inr (6, [.ref n_tape, .int ztaped, .ref n_isThere, .ref n_size, .ref n_depth, .ref n_memory, .ref n_register, .ref n_mode, .ref n_pc, .ref n_base, .ref n_bound, .ref n_timer, .ref n_ranOut, .ref n_halted, .ref n_steps, .ref n_outs, .ref n_output, .ref n_waits, .ref n_typed, .ref n_disk, .ref n_wants, .int o_zat, .int zend, .int zline, .ref n_labelFrom, .ref n_labelSize, .ref n_labelAddress, .int zlabels, .int zfault, .int zfaultLine, .int zisTold, .int zaddress, .ref n_made, .int zmissing, .int o_zgood, .int zvalue, .int zvalueFrom, .int zvalueSize, .int zme])), (n_tape, .inl (E.2.1 2, 3000, .inl ztape))] := by
  refine jw (by decide +kernel) (Nat.le_of_ble_eq_true rfl) ?_
  intro p e s m below meth c A ls J hJ hAe hsz hA hZ hP hD hl
  rw [← hAe]
  have hS : va_S A s.heap s.heap [] := va_S.rf
  have hl : lv_has ls 3 [(0, .ref n0)] := hl
  unfold f_MD_number at h
  refine lv_iconst (v := 0) J.1 J.2.1 d_MD_number_0 (by decide) ?_
  refine lv_istore_n (lv' := [(1, .int 0), (0, .ref n0)]) J.1 J.2.1 d_MD_number_1 rfl hl (by decide) rfl ?_
  clear hl
  intro ls hl
  refine lv_iconst (v := 0) J.1 J.2.1 d_MD_number_2 (by decide) ?_
  refine lv_istore_n (lv' := [(2, .int 0), (1, .int 0), (0, .ref n0)]) J.1 J.2.1 d_MD_number_3 rfl hl (by decide) rfl ?_
  clear hl
  intro ls hl
  exact kb_MD_number_4 J hJ hA hZ _ _ _ _ _ _ _ _ _ _ _ _ _ _ _ _ _ _ _ _ _ _ h hP hD hS (lv_sub hl [2, 1, 0] rfl)
