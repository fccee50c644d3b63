theorem hd_MD_lines : y_MD_lines.cls ≠ "java/lang/invoke/MethodHandle" ∧ y_MD_lines.cls ≠ "java/lang/invoke/VarHandle" ∧ (parseMethodDescriptor y_MD_lines.desc).map (fun d => d.parameters.length) = some 2 := by decide +kernel
def b_MD_lines_62 (kx : Int32 → Int32 → Int32 → Option (Int32 × Int32 × Int32 × Int32 × Int32 × Int32 × Int32 × Int32 × Int32 × Int32 × Int32 × Int32 × (Nat → Int32) × (Nat → Int32) × (Nat → Int32) × (Nat → Int32))) : Nat → Int32 → Int32 → (Nat → Int32) → Int32 → Int32 → Option (Int32 × Int32 × Int32 × Int32 × Int32 × Int32 × Int32 × Int32 × Int32 × Int32 × Int32 × Int32 × (Nat → Int32) × (Nat → Int32) × (Nat → Int32) × (Nat → Int32))
  | 0, _, _, _, _, _ => none
  | n + 1, zat, zend, ztape, x1, x2 => (if zend ≤ zat then kx zat x1 x2 else (if ck zat 3000 then (if (ztape zat.toNatClampNeg) = (10 : Int32) then kx zat x1 x2 else b_MD_lines_62 kx n (zat + 1) zend ztape x1 x2) else none))
def b_MD_lines_15 : Nat → Int32 → Int32 → Int32 → Int32 → Int32 → Int32 → Int32 → Int32 → Int32 → Int32 → Int32 → Int32 → (Nat → Int32) → (Nat → Int32) → (Nat → Int32) → (Nat → Int32) → (Nat → Int32) → (Nat → Int32) → Int32 → Int32 → Option (Int32 × Int32 × Int32 × Int32 × Int32 × Int32 × Int32 × Int32 × Int32 × Int32 × Int32 × Int32 × (Nat → Int32) × (Nat → Int32) × (Nat → Int32) × (Nat → Int32))
  | 0, _, _, _, _, _, _, _, _, _, _, _, _, _, _, _, _, _, _, _, _ => none
  | n + 1, zat, zend, zline, zlabels, zfault, zfaultLine, zaddress, zmissing, zgood, zvalue, zvalueFrom, zvalueSize, ztape, zwants, zlabelFrom, zlabelSize, zlabelAddress, zmade, x1, x2 => (if zend ≤ zat then (some (1, zat, zline, zlabels, zfault, zfaultLine, zaddress, zmissing, zgood, zvalue, zvalueFrom, zvalueSize, zlabelFrom, zlabelSize, zlabelAddress, zmade)) else ((f_MD_oneLine zat zend (zline + 1) zlabels zaddress zmissing zvalueFrom ztape zwants zlabelFrom zlabelSize zlabelAddress zmade x1 x2).bind fun (r_5, zat_5, zlabels_5, zaddress_5, zmissing_5, zgood_5, zvalue_5, zvalueFrom_5, zvalueSize_5, zlabelFrom_5, zlabelSize_5, zlabelAddress_5, zmade_5) => (if r_5 ≤ (0 : Int32) then b_MD_lines_62 (fun zat_7 x1_7 x2_7 => b_MD_lines_15 n (zat_7 + 1) zend (zline + 1) zlabels_5 zfault zfaultLine zaddress_5 zmissing_5 zgood_5 zvalue_5 zvalueFrom_5 zvalueSize_5 ztape zwants zlabelFrom_5 zlabelSize_5 zlabelAddress_5 zmade_5 x1_7 x2_7) 65536 zat_5 zend ztape x1 x2 else (some (0, zat_5, (zline + 1), zlabels_5, r_5, (zline + 1), zaddress_5, zmissing_5, zgood_5, zvalue_5, zvalueFrom_5, zvalueSize_5, zlabelFrom_5, zlabelSize_5, zlabelAddress_5, zmade_5)))))
def f_MD_lines (zend : Int32) (zlabels : Int32) (zfault : Int32) (zfaultLine : Int32) (zmissing : Int32) (zgood : Int32) (zvalue : Int32) (zvalueFrom : Int32) (zvalueSize : Int32) (ztape : Nat → Int32) (zwants : Nat → Int32) (zlabelFrom : Nat → Int32) (zlabelSize : Nat → Int32) (zlabelAddress : Nat → Int32) (zmade : Nat → Int32) (p1 : Int32) (p2 : Int32) : Option (Int32 × Int32 × Int32 × Int32 × Int32 × Int32 × Int32 × Int32 × Int32 × Int32 × Int32 × Int32 × (Nat → Int32) × (Nat → Int32) × (Nat → Int32) × (Nat → Int32)) := b_MD_lines_15 65536 0 zend 0 zlabels zfault zfaultLine 0 zmissing zgood zvalue zvalueFrom zvalueSize ztape zwants zlabelFrom zlabelSize zlabelAddress zmade p1 p2
set_option maxHeartbeats 4000000 in
set_option maxRecDepth 100000 in
theorem kb_MD_lines_62 {p : Program} {l : Launch} {e : Env} {s : State} {m : MethodId} {below : List Frame} {meth : Method} {c : Code} {A : Nat → Prop} {E : jz_E} {n0 n_base n_bound n_depth n_disk n_halted n_isThere n_labelAddress n_labelFrom n_labelSize n_made n_memory n_mode n_output n_outs n_pc n_ranOut n_register n_size n_steps n_tape n_timer n_typed n_waits n_wants : Nat} {p1 : Int32} {p2 : Int32} {o_r : Int32} {o_zat : Int32} {o_zline : Int32} {o_zlabels : Int32} {o_zfault : Int32} {o_zfaultLine : Int32} {o_zaddress : Int32} {o_zmissing : Int32} {o_zgood : Int32} {o_zvalue : Int32} {o_zvalueFrom : Int32} {o_zvalueSize : Int32} {o_zlabelFrom : Nat → Int32} {o_zlabelSize : Nat → Int32} {o_zlabelAddress : Nat → Int32} {o_zmade : Nat → Int32} (J : JC p s m ([.ref n0, .int p1, .int p2] : List Value).toArray meth c c_MD_lines 4 (some .boolean) y_MD_lines.cls) (hJ : jE E s) (hA : ∀ q : Nat, s.heap.size ≤ q → A q) (hZ : jz_ok E A s s.heap) : ∀ (ztaped : Int32) (zend : Int32) (zline : Int32) (zlabels : Int32) (zfault : Int32) (zfaultLine : Int32) (zisTold : Int32) (zaddress : Int32) (zmissing : Int32) (zgood : Int32) (zvalue : Int32) (zvalueFrom : Int32) (zvalueSize : Int32) (zme : Int32) (ztape : Nat → Int32) (zwants : Nat → Int32) (zlabelFrom : Nat → Int32) (zlabelSize : Nat → Int32) (zlabelAddress : Nat → Int32) (zmade : Nat → Int32) (kx : Int32 → Int32 → Int32 → Option (Int32 × Int32 × Int32 × Int32 × Int32 × Int32 × Int32 × Int32 × Int32 × Int32 × Int32 × Int32 × (Nat → Int32) × (Nat → Int32) × (Nat → Int32) × (Nat → Int32))), (∀ (zat : Int32) (x1X : Int32) (x2X : Int32) (H : Heap) (locs : List Loc) (ls : Array Slot), kx zat x1X x2X = some (o_r, o_zat, o_zline, o_zlabels, o_zfault, o_zfaultLine, o_zaddress, o_zmissing, o_zgood, o_zvalue, o_zvalueFrom, o_zvalueSize, o_zlabelFrom, o_zlabelSize, o_zlabelAddress, o_zmade) → va_P E.1 classes [(n0, .inr (6, [.ref n_tape, .int ztaped, .ref n_isThere, .ref n_size, .ref n_depth, .ref n_memory, .ref n_register, .ref n_mode, .ref n_pc, .ref n_base, .ref n_bound, .ref n_timer, .ref n_ranOut, .ref n_halted, .ref n_steps, .ref n_outs, .ref n_output, .ref n_waits, .ref n_typed, .ref n_disk, .ref n_wants, .int zat, .int zend, .int zline, .ref n_labelFrom, .ref n_labelSize, .ref n_labelAddress, .int zlabels, .int zfault, .int zfaultLine, .int zisTold, .int zaddress, .ref n_made, .int zmissing, .int zgood, .int zvalue, .int zvalueFrom, .int zvalueSize, .int zme])), (n_tape, .inl (E.2.1 2, 3000, .inl ztape)), (n_wants, .inl (E.2.1 0, 25, .inl zwants)), (n_labelFrom, .inl (E.2.1 0, 100, .inl zlabelFrom)), (n_labelSize, .inl (E.2.1 0, 100, .inl zlabelSize)), (n_labelAddress, .inl (E.2.1 0, 100, .inl zlabelAddress)), (n_made, .inl (E.2.1 0, 1024, .inl zmade))] H → va_D A [(n0, .inr (6, [.ref n_tape, .int ztaped, .ref n_isThere, .ref n_size, .ref n_depth, .ref n_memory, .ref n_register, .ref n_mode, .ref n_pc, .ref n_base, .ref n_bound, .ref n_timer, .ref n_ranOut, .ref n_halted, .ref n_steps, .ref n_outs, .ref n_output, .ref n_waits, .ref n_typed, .ref n_disk, .ref n_wants, .int zat, .int zend, .int zline, .ref n_labelFrom, .ref n_labelSize, .ref n_labelAddress, .int zlabels, .int zfault, .int zfaultLine, .int zisTold, .int zaddress, .ref n_made, .int zmissing, .int zgood, .int zvalue, .int zvalueFrom, .int zvalueSize, .int zme])), (n_tape, .inl (E.2.1 2, 3000, .inl ztape)), (n_wants, .inl (E.2.1 0, 25, .inl zwants)), (n_labelFrom, .inl (E.2.1 0, 100, .inl zlabelFrom)), (n_labelSize, .inl (E.2.1 0, 100, .inl zlabelSize)), (n_labelAddress, .inl (E.2.1 0, 100, .inl zlabelAddress)), (n_made, .inl (E.2.1 0, 1024, .inl zmade))] → va_S A s.heap H locs → lv_has ls 4 [(0, .ref n0), (1, .int x1X), (2, .int x2X)] → W p l e ({ frames := 4, cells := 0, slots := 0, locals := 94 }) s m ([.ref n0, .int p1, .int p2] : List Value).toArray below meth c H locs 0 0 (MQ below (va_Qi (fun (r' : Int32) (u : va_W) => r' = o_r ∧ u = [(n0, .inr (6, [.ref n_tape, .int ztaped, .ref n_isThere, .ref n_size, .ref n_depth, .ref n_memory, .ref n_register, .ref n_mode, .ref n_pc, .ref n_base, .ref n_bound, .ref n_timer, .ref n_ranOut, .ref n_halted, .ref n_steps, .ref n_outs, .ref n_output, .ref n_waits, .ref n_typed, .ref n_disk, .ref n_wants, .int o_zat, .int zend, .int o_zline, .ref n_labelFrom, .ref n_labelSize, .ref n_labelAddress, .int o_zlabels, .int o_zfault, .int o_zfaultLine, .int zisTold, .int o_zaddress, .ref n_made, .int o_zmissing, .int o_zgood, .int o_zvalue, .int o_zvalueFrom, .int o_zvalueSize, .int zme])), (n_tape, .inl (E.2.1 2, 3000, .inl ztape)), (n_wants, .inl (E.2.1 0, 25, .inl zwants)), (n_labelFrom, .inl (E.2.1 0, 100, .inl o_zlabelFrom)), (n_labelSize, .inl (E.2.1 0, 100, .inl o_zlabelSize)), (n_labelAddress, .inl (E.2.1 0, 100, .inl o_zlabelAddress)), (n_made, .inl (E.2.1 0, 1024, .inl o_zmade))]) (BW E A) A) ([.ref n0, .int p1, .int p2] : List Value).toArray s 0 0 A) (F0 m 100 ls [])) → ∀ (n : Nat) (zat : Int32) (x1 : Int32) (x2 : Int32) (H : Heap) (locs : List Loc) (ls : Array Slot), b_MD_lines_62 kx n zat zend ztape x1 x2 = some (o_r, o_zat, o_zline, o_zlabels, o_zfault, o_zfaultLine, o_zaddress, o_zmissing, o_zgood, o_zvalue, o_zvalueFrom, o_zvalueSize, o_zlabelFrom, o_zlabelSize, o_zlabelAddress, o_zmade) → va_P E.1 classes [(n0, .inr (6, [.ref n_tape, .int ztaped, .ref n_isThere, .ref n_size, .ref n_depth, .ref n_memory, .ref n_register, .ref n_mode, .ref n_pc, .ref n_base, .ref n_bound, .ref n_timer, .ref n_ranOut, .ref n_halted, .ref n_steps, .ref n_outs, .ref n_output, .ref n_waits, .ref n_typed, .ref n_disk, .ref n_wants, .int zat, .int zend, .int zline, .ref n_labelFrom, .ref n_labelSize, .ref n_labelAddress, .int zlabels, .int zfault, .int zfaultLine, .int zisTold, .int zaddress, .ref n_made, .int zmissing, .int zgood, .int zvalue, .int zvalueFrom, .int zvalueSize, .int zme])), (n_tape, .inl (E.2.1 2, 3000, .inl ztape)), (n_wants, .inl (E.2.1 0, 25, .inl zwants)), (n_labelFrom, .inl (E.2.1 0, 100, .inl zlabelFrom)), (n_labelSize, .inl (E.2.1 0, 100, .inl zlabelSize)), (n_labelAddress, .inl (E.2.1 0, 100, .inl zlabelAddress)), (n_made, .inl (E.2.1 0, 1024, .inl zmade))] H → va_D A [(n0, .inr (6, [.ref n_tape, .int ztaped, .ref n_isThere, .ref n_size, .ref n_depth, .ref n_memory, .ref n_register, .ref n_mode, .ref n_pc, .ref n_base, .ref n_bound, .ref n_timer, .ref n_ranOut, .ref n_halted, .ref n_steps, .ref n_outs, .ref n_output, .ref n_waits, .ref n_typed, .ref n_disk, .ref n_wants, .int zat, .int zend, .int zline, .ref n_labelFrom, .ref n_labelSize, .ref n_labelAddress, .int zlabels, .int zfault, .int zfaultLine, .int zisTold, .int zaddress, .ref n_made, .int zmissing, .int zgood, .int zvalue, .int zvalueFrom, .int zvalueSize, .int zme])), (n_tape, .inl (E.2.1 2, 3000, .inl ztape)), (n_wants, .inl (E.2.1 0, 25, .inl zwants)), (n_labelFrom, .inl (E.2.1 0, 100, .inl zlabelFrom)), (n_labelSize, .inl (E.2.1 0, 100, .inl zlabelSize)), (n_labelAddress, .inl (E.2.1 0, 100, .inl zlabelAddress)), (n_made, .inl (E.2.1 0, 1024, .inl zmade))] → va_S A s.heap H locs → lv_has ls 4 [(0, .ref n0), (1, .int x1), (2, .int x2)] → W p l e ({ frames := 4, cells := 0, slots := 0, locals := 94 }) s m ([.ref n0, .int p1, .int p2] : List Value).toArray below meth c H locs 0 0 (MQ below (va_Qi (fun (r' : Int32) (u : va_W) => r' = o_r ∧ u = [(n0, .inr (6, [.ref n_tape, .int ztaped, .ref n_isThere, .ref n_size, .ref n_depth, .ref n_memory, .ref n_register, .ref n_mode, .ref n_pc, .ref n_base, .ref n_bound, .ref n_timer, .ref n_ranOut, .ref n_halted, .ref n_steps, .ref n_outs, .ref n_output, .ref n_waits, .ref n_typed, .ref n_disk, .ref n_wants, .int o_zat, .int zend, .int o_zline, .ref n_labelFrom, .ref n_labelSize, .ref n_labelAddress, .int o_zlabels, .int o_zfault, .int o_zfaultLine, .int zisTold, .int o_zaddress, .ref n_made, .int o_zmissing, .int o_zgood, .int o_zvalue, .int o_zvalueFrom, .int o_zvalueSize, .int zme])), (n_tape, .inl (E.2.1 2, 3000, .inl ztape)), (n_wants, .inl (E.2.1 0, 25, .inl zwants)), (n_labelFrom, .inl (E.2.1 0, 100, .inl o_zlabelFrom)), (n_labelSize, .inl (E.2.1 0, 100, .inl o_zlabelSize)), (n_labelAddress, .inl (E.2.1 0, 100, .inl o_zlabelAddress)), (n_made, .inl (E.2.1 0, 1024, .inl o_zmade))]) (BW E A) A) ([.ref n0, .int p1, .int p2] : List Value).toArray s 0 0 A) (F0 m 62 ls []) := by
  intro ztaped zend zline zlabels zfault zfaultLine zisTold zaddress zmissing zgood zvalue zvalueFrom zvalueSize zme ztape zwants zlabelFrom zlabelSize zlabelAddress zmade kx hk n
  induction n with
  | zero => intro zat x1 x2 H locs ls h; cases h
  | succ n ih =>
    intro zat x1 x2 H locs ls h hP hD hS hl
    rw [b_MD_lines_62] at h
    refine lv_aload_n J.1 J.2.1 d_MD_lines_62 rfl (lv_at hl 0 rfl) ?_
    refine jg J hJ hP 0 rfl rfl i_MD 21 (by decide) gf_MD_95 rfl d_MD_lines_63 ?_
    refine lv_aload_n J.1 J.2.1 d_MD_lines_66 rfl (lv_at hl 0 rfl) ?_
    refine jg J hJ hP 0 rfl rfl i_MD 22 (by decide) gf_MD_92 rfl d_MD_lines_67 ?_
    refine lv_icmp_ge (tgt := 100) J.1 J.2.1 d_MD_lines_70 (by decide) (fun c_1 => ?_) (fun c_1 => ?_)
    · replace h := g_t c_1 h
      exact hk _ _ _ _ _ _ h hP hD hS (lv_sub hl [0, 1, 2] rfl)
    · replace h := g_f c_1 h
      refine lv_aload_n J.1 J.2.1 d_MD_lines_73 rfl (lv_at hl 0 rfl) ?_
      refine jg J hJ hP 0 rfl rfl i_MD 0 (by decide) gf_MD_11 rfl d_MD_lines_74 ?_
      refine lv_aload_n J.1 J.2.1 d_MD_lines_77 rfl (lv_at hl 0 rfl) ?_
      refine jg J hJ hP 0 rfl rfl i_MD 21 (by decide) gf_MD_95 rfl d_MD_lines_78 ?_
      replace h := g_ck h
      obtain ⟨k_2, h⟩ := h
      refine va_bald J.1 J.2.1 hJ.1 hP 1 2 rfl rfl k_2 d_MD_lines_81 ?_
      refine lv_bipush (v := 10) J.1 J.2.1 d_MD_lines_82 (by decide) ?_
      refine lv_icmp_eq (tgt := 100) J.1 J.2.1 d_MD_lines_84 (by decide) (fun c_3 => ?_) (fun c_3 => ?_)
      · replace h := g_t c_3 h
        exact hk _ _ _ _ _ _ h hP hD hS (lv_sub hl [0, 1, 2] rfl)
      · replace h := g_f c_3 h
        refine lv_aload_n J.1 J.2.1 d_MD_lines_87 rfl (lv_at hl 0 rfl) ?_
        refine lv_dup J.1 J.2.1 d_MD_lines_88 rfl ?_
        refine jg J hJ hP 0 rfl rfl i_MD 21 (by decide) gf_MD_95 rfl d_MD_lines_89 ?_
        refine lv_iconst (v := 1) J.1 J.2.1 d_MD_lines_92 (by decide) ?_
        refine lv_iadd J.1 J.2.1 d_MD_lines_93 ?_
        refine jp J hJ hP hD hS 0 rfl rfl i_MD t_MD t_MD_ok n_MD 21 (by decide) gf_MD_95 rfl rfl rfl (Nat.le_of_ble_eq_true rfl) d_MD_lines_94 (WS' := [(n0, .inr (6, [.ref n_tape, .int ztaped, .ref n_isThere, .ref n_size, .ref n_depth, .ref n_memory, .ref n_register, .ref n_mode, .ref n_pc, .ref n_base, .ref n_bound, .ref n_timer, .ref n_ranOut, .ref n_halted, .ref n_steps, .ref n_outs, .ref n_output, .ref n_waits, .ref n_typed, .ref n_disk, .ref n_wants, .int (zat + 1), .int zend, .int zline, .ref n_labelFrom, .ref n_labelSize, .ref n_labelAddress, .int zlabels, .int zfault, .int zfaultLine, .int zisTold, .int zaddress, .ref n_made, .int zmissing, .int zgood, .int zvalue, .int zvalueFrom, .int zvalueSize, .int zme])), (n_tape, .inl (E.2.1 2, 3000, .inl ztape)), (n_wants, .inl (E.2.1 0, 25, .inl zwants)), (n_labelFrom, .inl (E.2.1 0, 100, .inl zlabelFrom)), (n_labelSize, .inl (E.2.1 0, 100, .inl zlabelSize)), (n_labelAddress, .inl (E.2.1 0, 100, .inl zlabelAddress)), (n_made, .inl (E.2.1 0, 1024, .inl zmade))]) rfl ?_
        clear hP hD hS
        intro H locs hP hD hS
        refine lv_goto (tgt := 62) J.1 J.2.1 d_MD_lines_97 (by decide) ?_
        exact ih _ _ _ _ _ _ h hP hD hS (lv_sub hl [0, 1, 2] rfl)
set_option maxHeartbeats 4000000 in
set_option maxRecDepth 100000 in
theorem kb_MD_lines_15 {p : Program} {l : Launch} {e : Env} {s : State} {m : MethodId} {below : List Frame} {meth : Method} {c : Code} {A : Nat → Prop} {E : jz_E} {n0 n_base n_bound n_depth n_disk n_halted n_isThere n_labelAddress n_labelFrom n_labelSize n_made n_memory n_mode n_output n_outs n_pc n_ranOut n_register n_size n_steps n_tape n_timer n_typed n_waits n_wants : Nat} {p1 : Int32} {p2 : Int32} {o_r : Int32} {o_zat : Int32} {o_zline : Int32} {o_zlabels : Int32} {o_zfault : Int32} {o_zfaultLine : Int32} {o_zaddress : Int32} {o_zmissing : Int32} {o_zgood : Int32} {o_zvalue : Int32} {o_zvalueFrom : Int32} {o_zvalueSize : Int32} {o_zlabelFrom : Nat → Int32} {o_zlabelSize : Nat → Int32} {o_zlabelAddress : Nat → Int32} {o_zmade : Nat → Int32} (J : JC p s m ([.ref n0, .int p1, .int p2] : List Value).toArray meth c c_MD_lines 4 (some .boolean) y_MD_lines.cls) (hJ : jE E s) (hA : ∀ q : Nat, s.heap.size ≤ q → A q) (hZ : jz_ok E A s s.heap) : ∀ (n : Nat) (ztaped : Int32) (zat : Int32) (zend : Int32) (zline : Int32) (zlabels : Int32) (zfault : Int32) (zfaultLine : Int32) (zisTold : Int32) (zaddress : Int32) (zmissing : Int32) (zgood : Int32) (zvalue : Int32) (zvalueFrom : Int32) (zvalueSize : Int32) (zme : Int32) (ztape : Nat → Int32) (zwants : Nat → Int32) (zlabelFrom : Nat → Int32) (zlabelSize : Nat → Int32) (zlabelAddress : Nat → Int32) (zmade : Nat → Int32) (x1 : Int32) (x2 : Int32) (H : Heap) (locs : List Loc) (ls : Array Slot), b_MD_lines_15 n zat zend zline zlabels zfault zfaultLine zaddress zmissing zgood zvalue zvalueFrom zvalueSize ztape zwants zlabelFrom zlabelSize zlabelAddress zmade x1 x2 = some (o_r, o_zat, o_zline, o_zlabels, o_zfault, o_zfaultLine, o_zaddress, o_zmissing, o_zgood, o_zvalue, o_zvalueFrom, o_zvalueSize, o_zlabelFrom, o_zlabelSize, o_zlabelAddress, o_zmade) → va_P E.1 classes [(n0, .inr (6, [.ref n_tape, .int ztaped, .ref n_isThere, .ref n_size, .ref n_depth, .ref n_memory, .ref n_register, .ref n_mode, .ref n_pc, .ref n_base, .ref n_bound, .ref n_timer, .ref n_ranOut, .ref n_halted, .ref n_steps, .ref n_outs, .ref n_output, .ref n_waits, .ref n_typed, .ref n_disk, .ref n_wants, .int zat, .int zend, .int zline, .ref n_labelFrom, .ref n_labelSize, .ref n_labelAddress, .int zlabels, .int zfault, .int zfaultLine, .int zisTold, .int zaddress, .ref n_made, .int zmissing, .int zgood, .int zvalue, .int zvalueFrom, .int zvalueSize, .int zme])), (n_tape, .inl (E.2.1 2, 3000, .inl ztape)), (n_wants, .inl (E.2.1 0, 25, .inl zwants)), (n_labelFrom, .inl (E.2.1 0, 100, .inl zlabelFrom)), (n_labelSize, .inl (E.2.1 0, 100, .inl zlabelSize)), (n_labelAddress, .inl (E.2.1 0, 100, .inl zlabelAddress)), (n_made, .inl (E.2.1 0, 1024, .inl zmade))] H → va_D A [(n0, .inr (6, [.ref n_tape, .int ztaped, .ref n_isThere, .ref n_size, .ref n_depth, .ref n_memory, .ref n_register, .ref n_mode, .ref n_pc, .ref n_base, .ref n_bound, .ref n_timer, .ref n_ranOut, .ref n_halted, .ref n_steps, .ref n_outs, .ref n_output, .ref n_waits, .ref n_typed, .ref n_disk, .ref n_wants, .int zat, .int zend, .int zline, .ref n_labelFrom, .ref n_labelSize, .ref n_labelAddress, .int zlabels, .int zfault, .int zfaultLine, .int zisTold, .int zaddress, .ref n_made, .int zmissing, .int zgood, .int zvalue, .int zvalueFrom, .int zvalueSize, .int zme])), (n_tape, .inl (E.2.1 2, 3000, .inl ztape)), (n_wants, .inl (E.2.1 0, 25, .inl zwants)), (n_labelFrom, .inl (E.2.1 0, 100, .inl zlabelFrom)), (n_labelSize, .inl (E.2.1 0, 100, .inl zlabelSize)), (n_labelAddress, .inl (E.2.1 0, 100, .inl zlabelAddress)), (n_made, .inl (E.2.1 0, 1024, .inl zmade))] → va_S A s.heap H locs → lv_has ls 4 [(0, .ref n0), (1, .int x1), (2, .int x2)] → W p l e ({ frames := 4, cells := 0, slots := 0, locals := 94 }) s m ([.ref n0, .int p1, .int p2] : List Value).toArray below meth c H locs 0 0 (MQ below (va_Qi (fun (r' : Int32) (u : va_W) => r' = o_r ∧ u = [(n0, .inr (6, [.ref n_tape, .int ztaped, .ref n_isThere, .ref n_size, .ref n_depth, .ref n_memory, .ref n_register, .ref n_mode, .ref n_pc, .ref n_base, .ref n_bound, .ref n_timer, .ref n_ranOut, .ref n_halted, .ref n_steps, .ref n_outs, .ref n_output, .ref n_waits, .ref n_typed, .ref n_disk, .ref n_wants, .int o_zat, .int zend, .int o_zline, .ref n_labelFrom, .ref n_labelSize, .ref n_labelAddress, .int o_zlabels, .int o_zfault, .int o_zfaultLine, .int zisTold, .int o_zaddress, .ref n_made, .int o_zmissing, .int o_zgood, .int o_zvalue, .int o_zvalueFrom, .int o_zvalueSize, .int zme])), (n_tape, .inl (E.2.1 2, 3000, .inl ztape)), (n_wants, .inl (E.2.1 0, 25, .inl zwants)), (n_labelFrom, .inl (E.2.1 0, 100, .inl o_zlabelFrom)), (n_labelSize, .inl (E.2.1 0, 100, .inl o_zlabelSize)), (n_labelAddress, .inl (E.2.1 0, 100, .inl o_zlabelAddress)), (n_made, .inl (E.2.1 0, 1024, .inl o_zmade))]) (BW E A) A) ([.ref n0, .int p1, .int p2] : List Value).toArray s 0 0 A) (F0 m 15 ls []) := by
  intro n
  induction n with
  | zero => intro ztaped zat zend zline zlabels zfault zfaultLine zisTold zaddress zmissing zgood zvalue zvalueFrom zvalueSize zme ztape zwants zlabelFrom zlabelSize zlabelAddress zmade x1 x2 H locs ls h; cases h
  | succ n ih =>
    intro ztaped zat zend zline zlabels zfault zfaultLine zisTold zaddress zmissing zgood zvalue zvalueFrom zvalueSize zme ztape zwants zlabelFrom zlabelSize zlabelAddress zmade x1 x2 H locs ls h hP hD hS hl
    rw [b_MD_lines_15] at h
    refine lv_aload_n J.1 J.2.1 d_MD_lines_15 rfl (lv_at hl 0 rfl) ?_
    refine jg J hJ hP 0 rfl rfl i_MD 21 (by decide) gf_MD_95 rfl d_MD_lines_16 ?_
    refine lv_aload_n J.1 J.2.1 d_MD_lines_19 rfl (lv_at hl 0 rfl) ?_
    refine jg J hJ hP 0 rfl rfl i_MD 22 (by decide) gf_MD_92 rfl d_MD_lines_20 ?_
    refine lv_icmp_ge (tgt := 113) J.1 J.2.1 d_MD_lines_23 (by decide) (fun c_4 => ?_) (fun c_4 => ?_)
    · replace h := g_t c_4 h
      refine lv_iconst (v := 1) J.1 J.2.1 d_MD_lines_113 (by decide) ?_
      have h := Option.some.inj h
      have e_0 := (Prod.mk.inj h).1
      have h := (Prod.mk.inj h).2
      have e_1 := (Prod.mk.inj h).1
      have h := (Prod.mk.inj h).2
      have e_2 := (Prod.mk.inj h).1
      have h := (Prod.mk.inj h).2
      have e_3 := (Prod.mk.inj h).1
      have h := (Prod.mk.inj h).2
      have e_4 := (Prod.mk.inj h).1
      have h := (Prod.mk.inj h).2
      have e_5 := (Prod.mk.inj h).1
      have h := (Prod.mk.inj h).2
      have e_6 := (Prod.mk.inj h).1
      have h := (Prod.mk.inj h).2
      have e_7 := (Prod.mk.inj h).1
      have h := (Prod.mk.inj h).2
      have e_8 := (Prod.mk.inj h).1
      have h := (Prod.mk.inj h).2
      have e_9 := (Prod.mk.inj h).1
      have h := (Prod.mk.inj h).2
      have e_10 := (Prod.mk.inj h).1
      have h := (Prod.mk.inj h).2
      have e_11 := (Prod.mk.inj h).1
      have h := (Prod.mk.inj h).2
      have e_12 := (Prod.mk.inj h).1
      have h := (Prod.mk.inj h).2
      have e_13 := (Prod.mk.inj h).1
      have h := (Prod.mk.inj h).2
      have e_14 := (Prod.mk.inj h).1
      have h := (Prod.mk.inj h).2
      rw [← e_0, ← e_1, ← e_2, ← e_3, ← e_4, ← e_5, ← e_6, ← e_7, ← e_8, ← e_9, ← e_10, ← e_11, ← e_12, ← e_13, ← e_14, ← h]
      exact jr_i J hS hP hD rfl d_MD_lines_114
    · replace h := g_f c_4 h
      refine lv_aload_n J.1 J.2.1 d_MD_lines_26 rfl (lv_at hl 0 rfl) ?_
      refine lv_dup J.1 J.2.1 d_MD_lines_27 rfl ?_
      refine jg J hJ hP 0 rfl rfl i_MD 23 (by decide) gf_MD_211 rfl d_MD_lines_28 ?_
      refine lv_iconst (v := 1) J.1 J.2.1 d_MD_lines_31 (by decide) ?_
      refine lv_iadd J.1 J.2.1 d_MD_lines_32 ?_
      refine jp J hJ hP hD hS 0 rfl rfl i_MD t_MD t_MD_ok n_MD 23 (by decide) gf_MD_211 rfl rfl rfl (Nat.le_of_ble_eq_true rfl) d_MD_lines_33 (WS' := [(n0, .inr (6, [.ref n_tape, .int ztaped, .ref n_isThere, .ref n_size, .ref n_depth, .ref n_memory, .ref n_register, .ref n_mode, .ref n_pc, .ref n_base, .ref n_bound, .ref n_timer, .ref n_ranOut, .ref n_halted, .ref n_steps, .ref n_outs, .ref n_output, .ref n_waits, .ref n_typed, .ref n_disk, .ref n_wants, .int zat, .int zend, .int (zline + 1), .ref n_labelFrom, .ref n_labelSize, .ref n_labelAddress, .int zlabels, .int zfault, .int zfaultLine, .int zisTold, .int zaddress, .ref n_made, .int zmissing, .int zgood, .int zvalue, .int zvalueFrom, .int zvalueSize, .int zme])), (n_tape, .inl (E.2.1 2, 3000, .inl ztape)), (n_wants, .inl (E.2.1 0, 25, .inl zwants)), (n_labelFrom, .inl (E.2.1 0, 100, .inl zlabelFrom)), (n_labelSize, .inl (E.2.1 0, 100, .inl zlabelSize)), (n_labelAddress, .inl (E.2.1 0, 100, .inl zlabelAddress)), (n_made, .inl (E.2.1 0, 1024, .inl zmade))]) rfl ?_
      clear hP hD hS
      intro H locs hP hD hS
      refine lv_aload_n J.1 J.2.1 d_MD_lines_36 rfl (lv_at hl 0 rfl) ?_
      refine lv_iload_n J.1 J.2.1 d_MD_lines_37 rfl (lv_at hl 1 rfl) ?_
      refine lv_iload_n J.1 J.2.1 d_MD_lines_38 rfl (lv_at hl 2 rfl) ?_
      replace h := g_bd h
      obtain ⟨⟨r_5, zat_5, zlabels_5, zaddress_5, zmissing_5, zgood_5, zvalue_5, zvalueFrom_5, zvalueSize_5, zlabelFrom_5, zlabelSize_5, zlabelAddress_5, zmade_5⟩, q_5, h⟩ := h
      try dsimp only at h
      have hq := ct_MD_oneLine l E n0 n_base n_bound n_depth n_disk n_halted n_isThere n_labelAddress n_labelFrom n_labelSize n_made n_memory n_mode n_output n_outs n_pc n_ranOut n_register n_size n_steps n_tape n_timer n_typed n_waits n_wants H.size ztaped zat zend (zline + 1) zlabels zfault zfaultLine zisTold zaddress zmissing zgood zvalue zvalueFrom zvalueSize zme ztape zwants zlabelFrom zlabelSize zlabelAddress zmade x1 x2 r_5 zat_5 zlabels_5 zaddress_5 zmissing_5 zgood_5 zvalue_5 zvalueFrom_5 zvalueSize_5 zlabelFrom_5 zlabelSize_5 zlabelAddress_5 zmade_5 q_5
      have hr := jrunV (p := p) (e := e) (below := below) (R := ({ frames := 4, cells := 0, slots := 0, locals := 94 })) (cells := 0) (slots := 0) (As := [.int x1, .int x2]) (rest := []) J hJ hA hZ hP hD hS hq [0, 1, 2, 3, 4, 5, 6] rfl (by decide) gl_MD_236 gi_MD_oneLine gsel_MD_oneLine gini_MD gc_MD_oneLine hd_MD_oneLine ⟨rfl, rfl, Nat.le_of_ble_eq_true rfl, Nat.le_of_ble_eq_true rfl⟩ rfl rfl hl.1 rfl rfl (Nat.le_of_ble_eq_true rfl) d_MD_lines_39 ⟨Nat.zero_le _, Nat.zero_le _⟩
      clear hq
      refine jk_i hr hA hP hD hS [0, 1, 2, 3, 4, 5, 6] [] (WR := []) rfl rfl (by decide) (by decide) [0, 1, 2, 3, 4, 5, 6] (WF := [(n0, .inr (6, [.ref n_tape, .int ztaped, .ref n_isThere, .ref n_size, .ref n_depth, .ref n_memory, .ref n_register, .ref n_mode, .ref n_pc, .ref n_base, .ref n_bound, .ref n_timer, .ref n_ranOut, .ref n_halted, .ref n_steps, .ref n_outs, .ref n_output, .ref n_waits, .ref n_typed, .ref n_disk, .ref n_wants, .int zat_5, .int zend, .int (zline + 1), .ref n_labelFrom, .ref n_labelSize, .ref n_labelAddress, .int zlabels_5, .int zfault, .int zfaultLine, .int zisTold, .int zaddress_5, .ref n_made, .int zmissing_5, .int zgood_5, .int zvalue_5, .int zvalueFrom_5, .int zvalueSize_5, .int zme])), (n_tape, .inl (E.2.1 2, 3000, .inl ztape)), (n_wants, .inl (E.2.1 0, 25, .inl zwants)), (n_labelFrom, .inl (E.2.1 0, 100, .inl zlabelFrom_5)), (n_labelSize, .inl (E.2.1 0, 100, .inl zlabelSize_5)), (n_labelAddress, .inl (E.2.1 0, 100, .inl zlabelAddress_5)), (n_made, .inl (E.2.1 0, 1024, .inl zmade_5))]) rfl (by decide) ?_
      clear hP hD hS
      intro H locs hP hD hS
      clear hr
      refine lv_istore_n (lv' := [(3, .int r_5), (0, .ref n0), (1, .int x1), (2, .int x2)]) J.1 J.2.1 d_MD_lines_42 rfl hl (by decide) rfl ?_
      clear hl
      intro ls hl
      refine lv_iload_n J.1 J.2.1 d_MD_lines_43 rfl (lv_at hl 0 rfl) ?_
      refine lv_if_le (tgt := 62) J.1 J.2.1 d_MD_lines_44 (by decide) (fun c_6 => ?_) (fun c_6 => ?_)
      · replace h := g_t c_6 h
        refine kb_MD_lines_62 J hJ hA hZ _ _ _ _ _ _ _ _ _ _ _ _ _ _ _ _ _ _ _ _ _ (fun zat_7 x1_7 x2_7 H locs ls h hP hD hS hl => ?_) _ _ _ _ _ _ _ h hP hD hS (lv_sub hl [1, 2, 3] rfl)
        refine lv_aload_n J.1 J.2.1 d_MD_lines_100 rfl (lv_at hl 0 rfl) ?_
        refine lv_dup J.1 J.2.1 d_MD_lines_101 rfl ?_
        refine jg J hJ hP 0 rfl rfl i_MD 21 (by decide) gf_MD_95 rfl d_MD_lines_102 ?_
        refine lv_iconst (v := 1) J.1 J.2.1 d_MD_lines_105 (by decide) ?_
        refine lv_iadd J.1 J.2.1 d_MD_lines_106 ?_
        refine jp J hJ hP hD hS 0 rfl rfl i_MD t_MD t_MD_ok n_MD 21 (by decide) gf_MD_95 rfl rfl rfl (Nat.le_of_ble_eq_true rfl) d_MD_lines_107 (WS' := [(n0, .inr (6, [.ref n_tape, .int ztaped, .ref n_isThere, .ref n_size, .ref n_depth, .ref n_memory, .ref n_register, .ref n_mode, .ref n_pc, .ref n_base, .ref n_bound, .ref n_timer, .ref n_ranOut, .ref n_halted, .ref n_steps, .ref n_outs, .ref n_output, .ref n_waits, .ref n_typed, .ref n_disk, .ref n_wants, .int (zat_7 + 1), .int zend, .int (zline + 1), .ref n_labelFrom, .ref n_labelSize, .ref n_labelAddress, .int zlabels_5, .int zfault, .int zfaultLine, .int zisTold, .int zaddress_5, .ref n_made, .int zmissing_5, .int zgood_5, .int zvalue_5, .int zvalueFrom_5, .int zvalueSize_5, .int zme])), (n_tape, .inl (E.2.1 2, 3000, .inl ztape)), (n_wants, .inl (E.2.1 0, 25, .inl zwants)), (n_labelFrom, .inl (E.2.1 0, 100, .inl zlabelFrom_5)), (n_labelSize, .inl (E.2.1 0, 100, .inl zlabelSize_5)), (n_labelAddress, .inl (E.2.1 0, 100, .inl zlabelAddress_5)), (n_made, .inl (E.2.1 0, 1024, .inl zmade_5))]) rfl ?_
        clear hP hD hS
        intro H locs hP hD hS
        refine lv_goto (tgt := 15) J.1 J.2.1 d_MD_lines_110 (by decide) ?_
        exact ih _ _ _ _ _ _ _ _ _ _ _ _ _ _ _ _ _ _ _ _ _ _ _ _ _ _ h hP hD hS (lv_sub hl [0, 1, 2] rfl)
      · replace h := g_f c_6 h
        refine lv_aload_n J.1 J.2.1 d_MD_lines_47 rfl (lv_at hl 1 rfl) ?_
        refine lv_iload_n J.1 J.2.1 d_MD_lines_48 rfl (lv_at hl 0 rfl) ?_
        refine jp J hJ hP hD hS 0 rfl rfl i_MD t_MD t_MD_ok n_MD 28 (by decide) gf_MD_240 rfl rfl rfl (Nat.le_of_ble_eq_true rfl) d_MD_lines_49 (WS' := [(n0, .inr (6, [.ref n_tape, .int ztaped, .ref n_isThere, .ref n_size, .ref n_depth, .ref n_memory, .ref n_register, .ref n_mode, .ref n_pc, .ref n_base, .ref n_bound, .ref n_timer, .ref n_ranOut, .ref n_halted, .ref n_steps, .ref n_outs, .ref n_output, .ref n_waits, .ref n_typed, .ref n_disk, .ref n_wants, .int zat_5, .int zend, .int (zline + 1), .ref n_labelFrom, .ref n_labelSize, .ref n_labelAddress, .int zlabels_5, .int r_5, .int zfaultLine, .int zisTold, .int zaddress_5, .ref n_made, .int zmissing_5, .int zgood_5, .int zvalue_5, .int zvalueFrom_5, .int zvalueSize_5, .int zme])), (n_tape, .inl (E.2.1 2, 3000, .inl ztape)), (n_wants, .inl (E.2.1 0, 25, .inl zwants)), (n_labelFrom, .inl (E.2.1 0, 100, .inl zlabelFrom_5)), (n_labelSize, .inl (E.2.1 0, 100, .inl zlabelSize_5)), (n_labelAddress, .inl (E.2.1 0, 100, .inl zlabelAddress_5)), (n_made, .inl (E.2.1 0, 1024, .inl zmade_5))]) rfl ?_
        clear hP hD hS
        intro H locs hP hD hS
        refine lv_aload_n J.1 J.2.1 d_MD_lines_52 rfl (lv_at hl 1 rfl) ?_
        refine lv_aload_n J.1 J.2.1 d_MD_lines_53 rfl (lv_at hl 1 rfl) ?_
        refine jg J hJ hP 0 rfl rfl i_MD 23 (by decide) gf_MD_211 rfl d_MD_lines_54 ?_
        refine jp J hJ hP hD hS 0 rfl rfl i_MD t_MD t_MD_ok n_MD 29 (by decide) gf_MD_243 rfl rfl rfl (Nat.le_of_ble_eq_true rfl) d_MD_lines_57 (WS' := [(n0, .inr (6, [.ref n_tape, .int ztaped, .ref n_isThere, .ref n_size, .ref n_depth, .ref n_memory, .ref n_register, .ref n_mode, .ref n_pc, .ref n_base, .ref n_bound, .ref n_timer, .ref n_ranOut, .ref n_halted, .ref n_steps, .ref n_outs, .ref n_output, .ref n_waits, .ref n_typed, .ref n_disk, .ref n_wants, .int zat_5, .int zend, .int (zline + 1), .ref n_labelFrom, .ref n_labelSize, .ref n_labelAddress, .int zlabels_5, .int r_5, .int (zline + 1), .int zisTold, .int zaddress_5, .ref n_made, .int zmissing_5, .int zgood_5, .int zvalue_5, .int zvalueFrom_5, .int zvalueSize_5, .int zme])), (n_tape, .inl (E.2.1 2, 3000, .inl ztape)), (n_wants, .inl (E.2.1 0, 25, .inl zwants)), (n_labelFrom, .inl (E.2.1 0, 100, .inl zlabelFrom_5)), (n_labelSize, .inl (E.2.1 0, 100, .inl zlabelSize_5)), (n_labelAddress, .inl (E.2.1 0, 100, .inl zlabelAddress_5)), (n_made, .inl (E.2.1 0, 1024, .inl zmade_5))]) rfl ?_
        clear hP hD hS
        intro H locs hP hD hS
        refine lv_iconst (v := 0) J.1 J.2.1 d_MD_lines_60 (by decide) ?_
        have h := Option.some.inj h
        have e_0 := (Prod.mk.inj h).1
        have h := (Prod.mk.inj h).2
        have e_1 := (Prod.mk.inj h).1
        have h := (Prod.mk.inj h).2
        have e_2 := (Prod.mk.inj h).1
        have h := (Prod.mk.inj h).2
        have e_3 := (Prod.mk.inj h).1
        have h := (Prod.mk.inj h).2
        have e_4 := (Prod.mk.inj h).1
        have h := (Prod.mk.inj h).2
        have e_5 := (Prod.mk.inj h).1
        have h := (Prod.mk.inj h).2
        have e_6 := (Prod.mk.inj h).1
        have h := (Prod.mk.inj h).2
        have e_7 := (Prod.mk.inj h).1
        have h := (Prod.mk.inj h).2
        have e_8 := (Prod.mk.inj h).1
        have h := (Prod.mk.inj h).2
        have e_9 := (Prod.mk.inj h).1
        have h := (Prod.mk.inj h).2
        have e_10 := (Prod.mk.inj h).1
        have h := (Prod.mk.inj h).2
        have e_11 := (Prod.mk.inj h).1
        have h := (Prod.mk.inj h).2
        have e_12 := (Prod.mk.inj h).1
        have h := (Prod.mk.inj h).2
        have e_13 := (Prod.mk.inj h).1
        have h := (Prod.mk.inj h).2
        have e_14 := (Prod.mk.inj h).1
        have h := (Prod.mk.inj h).2
        rw [← e_0, ← e_1, ← e_2, ← e_3, ← e_4, ← e_5, ← e_6, ← e_7, ← e_8, ← e_9, ← e_10, ← e_11, ← e_12, ← e_13, ← e_14, ← h]
        exact jr_i J hS hP hD rfl d_MD_lines_61
set_option maxHeartbeats 4000000 in
set_option maxRecDepth 100000 in
theorem ct_MD_lines (l : Launch) (E : jz_E) (n0 n_base n_bound n_depth n_disk n_halted n_isThere n_labelAddress n_labelFrom n_labelSize n_made n_memory n_mode n_output n_outs n_pc n_ranOut n_register n_size n_steps n_tape n_timer n_typed n_waits n_wants : Nat) (sz : Nat) (ztaped : Int32) (zat : Int32) (zend : Int32) (zline : Int32) (zlabels : Int32) (zfault : Int32) (zfaultLine : Int32) (zisTold : Int32) (zaddress : Int32) (zmissing : Int32) (zgood : Int32) (zvalue : Int32) (zvalueFrom : Int32) (zvalueSize : Int32) (zme : Int32) (ztape : Nat → Int32) (zwants : Nat → Int32) (zlabelFrom : Nat → Int32) (zlabelSize : Nat → Int32) (zlabelAddress : Nat → Int32) (zmade : Nat → Int32) (p1 : Int32) (p2 : Int32) (o_r : Int32) (o_zat : Int32) (o_zline : Int32) (o_zlabels : Int32) (o_zfault : Int32) (o_zfaultLine : Int32) (o_zaddress : Int32) (o_zmissing : Int32) (o_zgood : Int32) (o_zvalue : Int32) (o_zvalueFrom : Int32) (o_zvalueSize : Int32) (o_zlabelFrom : Nat → Int32) (o_zlabelSize : Nat → Int32) (o_zlabelAddress : Nat → Int32) (o_zmade : Nat → Int32)  (h : f_MD_lines zend zlabels zfault zfaultLine zmissing zgood zvalue zvalueFrom zvalueSize ztape zwants zlabelFrom zlabelSize zlabelAddress zmade p1 p2 = some (o_r, o_zat, o_zline, o_zlabels, o_zfault, o_zfaultLine, o_zaddress, o_zmissing, o_zgood, o_zvalue, o_zvalueFrom, o_zvalueSize, o_zlabelFrom, o_zlabelSize, o_zlabelAddress, o_zmade)) : CTi l E y_MD_lines c_MD_lines 4 (some .boolean) ({ frames := 4, cells := 0, slots := 0, locals := 94 }) [.ref n0, .int p1, .int p2] [(n0, .inr (6, [.ref n_tape, .int ztaped, .ref n_isThere, .ref n_size, .ref n_depth, .ref n_memory, .ref n_register, .ref n_mode, .ref n_pc, .ref n_base, .ref n_bound, .ref n_timer, .ref n_ranOut, .ref n_halted, .ref n_steps, .ref n_outs, .ref n_output, .ref n_waits, .ref n_typed, .ref n_disk, .ref n_wants, .int zat, .int zend, .int zline, .ref n_labelFrom, .ref n_labelSize, .ref n_labelAddress, .int zlabels, .int zfault, .int zfaultLine, .int zisTold, .int zaddress, .ref n_made, .int zmissing, .int zgood, .int zvalue, .int zvalueFrom, .int zvalueSize, .int zme])), (n_tape, .inl (E.2.1 2, 3000, .inl ztape)), (n_wants, .inl (E.2.1 0, 25, .inl zwants)), (n_labelFrom, .inl (E.2.1 0, 100, .inl zlabelFrom)), (n_labelSize, .inl (E.2.1 0, 100, .inl zlabelSize)), (n_labelAddress, .inl (E.2.1 0, 100, .inl zlabelAddress)), (n_made, .inl (E.2.1 0, 1024, .inl zmade))] sz o_r [(n0, .inr (6, [.ref n_tape, .int ztaped, .ref n_isThere, .ref n_size, .ref n_depth, .ref n_memory, .ref n_register, .ref n_mode, .ref n_pc, .ref n_base, .ref n_bound, .ref n_timer, .ref n_ranOut, .ref n_halted, .ref n_steps, .ref n_outs, .ref n_output, .ref n_waits, .ref n_typed, .ref n_disk, .ref n_wants, .int o_zat, .int zend, .int o_zline, .ref n_labelFrom, .ref n_labelSize, .ref n_labelAddress, .int o_zlabels, .int o_zfault, .int o_zfaultLine, .int zisTold, .int o_zaddress, .ref n_made, .int o_zmissing, .int o_zgood, .int o_zvalue, .int o_zvalueFrom, .int o_zvalueSize, .int zme])), (n_tape, .inl (E.2.1 2, 3000, .inl ztape)), (n_wants, .inl (E.2.1 0, 25, .inl zwants)), (n_labelFrom, .inl (E.2.1 0, 100, .inl o_zlabelFrom)), (n_labelSize, .inl (E.2.1 0, 100, .inl o_zlabelSize)), (n_labelAddress, .inl (E.2.1 0, 100, .inl o_zlabelAddress)), (n_made, .inl (E.2.1 0, 1024, .inl o_zmade))] := by
  refine jw (by decide +kernel) (Nat.le_of_ble_eq_true rfl) ?_
  intro p e s m below meth c A ls J hJ hAe hsz hA hZ hP hD hl
  rw [← hAe]
  have hS : va_S A s.heap s.heap [] := va_S.rf
  have hl : lv_has ls 4 [(0, .ref n0), (1, .int p1), (2, .int p2)] := hl
  unfold f_MD_lines at h
  refine lv_aload_n J.1 J.2.1 d_MD_lines_0 rfl (lv_at hl 0 rfl) ?_
  refine lv_iconst (v := 0) J.1 J.2.1 d_MD_lines_1 (by decide) ?_
  refine jp J hJ hP hD hS 0 rfl rfl i_MD t_MD t_MD_ok n_MD 21 (by decide) gf_MD_95 rfl rfl rfl (Nat.le_of_ble_eq_true rfl) d_MD_lines_2 (WS' := [(n0, .inr (6, [.ref n_tape, .int ztaped, .ref n_isThere, .ref n_size, .ref n_depth, .ref n_memory, .ref n_register, .ref n_mode, .ref n_pc, .ref n_base, .ref n_bound, .ref n_timer, .ref n_ranOut, .ref n_halted, .ref n_steps, .ref n_outs, .ref n_output, .ref n_waits, .ref n_typed, .ref n_disk, .ref n_wants, .int 0, .int zend, .int zline, .ref n_labelFrom, .ref n_labelSize, .ref n_labelAddress, .int zlabels, .int zfault, .int zfaultLine, .int zisTold, .int zaddress, .ref n_made, .int zmissing, .int zgood, .int zvalue, .int zvalueFrom, .int zvalueSize, .int zme])), (n_tape, .inl (E.2.1 2, 3000, .inl ztape)), (n_wants, .inl (E.2.1 0, 25, .inl zwants)), (n_labelFrom, .inl (E.2.1 0, 100, .inl zlabelFrom)), (n_labelSize, .inl (E.2.1 0, 100, .inl zlabelSize)), (n_labelAddress, .inl (E.2.1 0, 100, .inl zlabelAddress)), (n_made, .inl (E.2.1 0, 1024, .inl zmade))]) rfl ?_
  clear hP hD hS
  intro H locs hP hD hS
  refine lv_aload_n J.1 J.2.1 d_MD_lines_5 rfl (lv_at hl 0 rfl) ?_
  refine lv_iconst (v := 0) J.1 J.2.1 d_MD_lines_6 (by decide) ?_
  refine jp J hJ hP hD hS 0 rfl rfl i_MD t_MD t_MD_ok n_MD 23 (by decide) gf_MD_211 rfl rfl rfl (Nat.le_of_ble_eq_true rfl) d_MD_lines_7 (WS' := [(n0, .inr (6, [.ref n_tape, .int ztaped, .ref n_isThere, .ref n_size, .ref n_depth, .ref n_memory, .ref n_register, .ref n_mode, .ref n_pc, .ref n_base, .ref n_bound, .ref n_timer, .ref n_ranOut, .ref n_halted, .ref n_steps, .ref n_outs, .ref n_output, .ref n_waits, .ref n_typed, .ref n_disk, .ref n_wants, .int 0, .int zend, .int 0, .ref n_labelFrom, .ref n_labelSize, .ref n_labelAddress, .int zlabels, .int zfault, .int zfaultLine, .int zisTold, .int zaddress, .ref n_made, .int zmissing, .int zgood, .int zvalue, .int zvalueFrom, .int zvalueSize, .int zme])), (n_tape, .inl (E.2.1 2, 3000, .inl ztape)), (n_wants, .inl (E.2.1 0, 25, .inl zwants)), (n_labelFrom, .inl (E.2.1 0, 100, .inl zlabelFrom)), (n_labelSize, .inl (E.2.1 0, 100, .inl zlabelSize)), (n_labelAddress, .inl (E.2.1 0, 100, .inl zlabelAddress)), (n_made, .inl (E.2.1 0, 1024, .inl zmade))]) rfl ?_
  clear hP hD hS
  intro H locs hP hD hS
  refine lv_aload_n J.1 J.2.1 d_MD_lines_10 rfl (lv_at hl 0 rfl) ?_
  refine lv_iconst (v := 0) J.1 J.2.1 d_MD_lines_11 (by decide) ?_
  refine jp J hJ hP hD hS 0 rfl rfl i_MD t_MD t_MD_ok n_MD 31 (by decide) gf_MD_214 rfl rfl rfl (Nat.le_of_ble_eq_true rfl) d_MD_lines_12 (WS' := [(n0, .inr (6, [.ref n_tape, .int ztaped, .ref n_isThere, .ref n_size, .ref n_depth, .ref n_memory, .ref n_register, .ref n_mode, .ref n_pc, .ref n_base, .ref n_bound, .ref n_timer, .ref n_ranOut, .ref n_halted, .ref n_steps, .ref n_outs, .ref n_output, .ref n_waits, .ref n_typed, .ref n_disk, .ref n_wants, .int 0, .int zend, .int 0, .ref n_labelFrom, .ref n_labelSize, .ref n_labelAddress, .int zlabels, .int zfault, .int zfaultLine, .int zisTold, .int 0, .ref n_made, .int zmissing, .int zgood, .int zvalue, .int zvalueFrom, .int zvalueSize, .int zme])), (n_tape, .inl (E.2.1 2, 3000, .inl ztape)), (n_wants, .inl (E.2.1 0, 25, .inl zwants)), (n_labelFrom, .inl (E.2.1 0, 100, .inl zlabelFrom)), (n_labelSize, .inl (E.2.1 0, 100, .inl zlabelSize)), (n_labelAddress, .inl (E.2.1 0, 100, .inl zlabelAddress)), (n_made, .inl (E.2.1 0, 1024, .inl zmade))]) rfl ?_
  clear hP hD hS
  intro H locs hP hD hS
  exact kb_MD_lines_15 J hJ hA hZ _ _ _ _ _ _ _ _ _ _ _ _ _ _ _ _ _ _ _ _ _ _ _ _ _ _ _ h hP hD hS (lv_sub hl [0, 1, 2] rfl)
