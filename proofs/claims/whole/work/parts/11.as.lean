theorem hd_AS_lineEnd : y_AS_lineEnd.cls ≠ "java/lang/invoke/MethodHandle" ∧ y_AS_lineEnd.cls ≠ "java/lang/invoke/VarHandle" ∧ (parseMethodDescriptor y_AS_lineEnd.desc).map (fun d => d.parameters.length) = some 3 := by decide +kernel
def b_AS_lineEnd_2 : Nat → (Nat → Int32) → Int32 → Int32 → Option (Int32)
  | 0, _, _, _ => none
  | n + 1, ltx, x2, x3 => (if x2 ≤ x3 then (some x3) else (if ck x3 3000 then (if (ltx x3.toNatClampNeg) = (10 : Int32) then (some x3) else b_AS_lineEnd_2 n ltx x2 (x3 + 1)) else none))
def f_AS_lineEnd (ltx : Nat → Int32) (p1 : Int32) (p2 : Int32) : Option (Int32) := b_AS_lineEnd_2 65536 ltx p2 p1
set_option maxHeartbeats 4000000 in
set_option maxRecDepth 100000 in
theorem kb_AS_lineEnd_2 {p : Program} {l : Launch} {e : Env} {s : State} {m : MethodId} {below : List Frame} {meth : Method} {c : Code} {A : Nat → Prop} {E : jz_E} {l1 : Nat} {p1 : Int32} {p2 : Int32} {o_r : Int32} (J : JC p s m ([.ref l1, .int p1, .int p2] : List Value).toArray meth c c_AS_lineEnd 4 (some .int) y_AS_lineEnd.cls) (hJ : jE E s) (hA : ∀ q : Nat, s.heap.size ≤ q → A q) (hZ : jz_ok E A s s.heap) : ∀ (n : Nat) (ltx : Nat → Int32) (x2 : Int32) (x3 : Int32) (H : Heap) (locs : List Loc) (ls : Array Slot), b_AS_lineEnd_2 n ltx x2 x3 = some o_r → va_P E.1 classes [(l1, .inl (E.2.1 0, 3000, .inl ltx))] H → va_D A [(l1, .inl (E.2.1 0, 3000, .inl ltx))] → va_S A s.heap H locs → lv_has ls 4 [(0, .ref l1), (2, .int x2), (3, .int x3)] → W p l e ({ frames := 0, cells := 0, slots := 0, locals := 0 }) s m ([.ref l1, .int p1, .int p2] : List Value).toArray below meth c H locs 0 0 (MQ below (va_Qi (fun (r' : Int32) (u : va_W) => r' = o_r ∧ u = [(l1, .inl (E.2.1 0, 3000, .inl ltx))]) (BW E A) A) ([.ref l1, .int p1, .int p2] : List Value).toArray s 0 0 A) (F0 m 2 ls []) := by
  intro n
  induction n with
  | zero => intro ltx x2 x3 H locs ls h; cases h
  | succ n ih =>
    intro ltx x2 x3 H locs ls h hP hD hS hl
    rw [b_AS_lineEnd_2] at h
    refine lv_iload_n J.1 J.2.1 d_AS_lineEnd_2 rfl (lv_at hl 2 rfl) ?_
    refine lv_iload_n J.1 J.2.1 d_AS_lineEnd_3 rfl (lv_at hl 1 rfl) ?_
    refine lv_icmp_ge (tgt := 21) J.1 J.2.1 d_AS_lineEnd_4 (by decide) (fun c_1 => ?_) (fun c_1 => ?_)
    · replace h := g_t c_1 h
      refine lv_iload_n J.1 J.2.1 d_AS_lineEnd_21 rfl (lv_at hl 2 rfl) ?_
      have h := Option.some.inj h
      rw [← h]
      exact jr_i J hS hP hD rfl d_AS_lineEnd_22
    · replace h := g_f c_1 h
      refine lv_aload_n J.1 J.2.1 d_AS_lineEnd_7 rfl (lv_at hl 0 rfl) ?_
      refine lv_iload_n J.1 J.2.1 d_AS_lineEnd_8 rfl (lv_at hl 2 rfl) ?_
      replace h := g_ck h
      obtain ⟨k_2, h⟩ := h
      refine jai J hJ hP 0 rfl k_2 d_AS_lineEnd_9 ?_
      refine lv_bipush (v := 10) J.1 J.2.1 d_AS_lineEnd_10 (by decide) ?_
      refine lv_icmp_eq (tgt := 21) J.1 J.2.1 d_AS_lineEnd_12 (by decide) (fun c_3 => ?_) (fun c_3 => ?_)
      · replace h := g_t c_3 h
        refine lv_iload_n J.1 J.2.1 d_AS_lineEnd_21 rfl (lv_at hl 2 rfl) ?_
        have h := Option.some.inj h
        rw [← h]
        exact jr_i J hS hP hD rfl d_AS_lineEnd_22
      · replace h := g_f c_3 h
        refine lv_iinc (v := (x3 + 1)) (lv' := [(3, .int (x3 + 1)), (0, .ref l1), (2, .int x2)]) J.1 J.2.1 d_AS_lineEnd_15 hl (k := 2) rfl rfl (by decide) rfl ?_
        clear hl
        intro ls hl
        refine lv_goto (tgt := 2) J.1 J.2.1 d_AS_lineEnd_18 (by decide) ?_
        exact ih _ _ _ _ _ _ h hP hD hS (lv_sub hl [1, 2, 0] rfl)
set_option maxHeartbeats 4000000 in
set_option maxRecDepth 100000 in
theorem ct_AS_lineEnd (l : Launch) (E : jz_E) (l1 : Nat) (sz : Nat) (ltx : Nat → Int32) (p1 : Int32) (p2 : Int32) (o_r : Int32)  (h : f_AS_lineEnd ltx p1 p2 = some o_r) : CTi l E y_AS_lineEnd c_AS_lineEnd 4 (some .int) ({ frames := 0, cells := 0, slots := 0, locals := 0 }) [.ref l1, .int p1, .int p2] [(l1, .inl (E.2.1 0, 3000, .inl ltx))] sz o_r [(l1, .inl (E.2.1 0, 3000, .inl ltx))] := by
  refine jw (by decide +kernel) (Nat.le_of_ble_eq_true rfl) ?_
  intro p e s m below meth c A ls J hJ hAe hsz hA hZ hP hD hl
  rw [← hAe]
  have hS : va_S A s.heap s.heap [] := va_S.rf
  have hl : lv_has ls 4 [(0, .ref l1), (1, .int p1), (2, .int p2)] := hl
  unfold f_AS_lineEnd at h
  refine lv_iload_n J.1 J.2.1 d_AS_lineEnd_0 rfl (lv_at hl 1 rfl) ?_
  refine lv_istore_n (lv' := [(3, .int p1), (0, .ref l1), (1, .int p1), (2, .int p2)]) J.1 J.2.1 d_AS_lineEnd_1 rfl hl (by decide) rfl ?_
  clear hl
  intro ls hl
  exact kb_AS_lineEnd_2 J hJ hA hZ _ _ _ _ _ _ _ h hP hD hS (lv_sub hl [1, 3, 0] rfl)

theorem hd_AS_tellFault : y_AS_tellFault.cls ≠ "java/lang/invoke/MethodHandle" ∧ y_AS_tellFault.cls ≠ "java/lang/invoke/VarHandle" ∧ (parseMethodDescriptor y_AS_tellFault.desc).map (fun d => d.parameters.length) = some 2 := by decide +kernel
def f_AS_tellFault (sft : Int32) (sfl : Int32) (p1 : Int32) (p2 : Int32) : Option (Int32 × Int32) := (if p1 = (0 : Int32) then (some (sft, sfl)) else (some (p1, p2)))
set_option maxHeartbeats 4000000 in
set_option maxRecDepth 100000 in
theorem ct_AS_tellFault (l : Launch) (E : jz_E) (l0 s0 s1 s2 s3 s4 s5 s6 : Nat) (sz : Nat) (shr : Int32) (sft : Int32) (sfl : Int32) (slc : Int32) (suc : Int32) (p1 : Int32) (p2 : Int32) (o_sft : Int32) (o_sfl : Int32)  (h : f_AS_tellFault sft sfl p1 p2 = some (o_sft, o_sfl)) : CTv l E y_AS_tellFault c_AS_tellFault 3 none ({ frames := 0, cells := 0, slots := 0, locals := 0 }) [.ref s0, .int p1, .int p2] [(s0, .inr (4, [.ref s1, .int shr, .int sft, .int sfl, .ref l0, .ref s2, .ref s3, .int slc, .ref s4, .ref s5, .ref s6, .int suc]))] sz [(s0, .inr (4, [.ref s1, .int shr, .int o_sft, .int o_sfl, .ref l0, .ref s2, .ref s3, .int slc, .ref s4, .ref s5, .ref s6, .int suc]))] := by
  refine jw (by decide +kernel) (Nat.le_of_ble_eq_true rfl) ?_
  intro p e s m below meth c A ls J hJ hAe hsz hA hZ hP hD hl
  rw [← hAe]
  have hS : va_S A s.heap s.heap [] := va_S.rf
  have hl : lv_has ls 3 [(0, .ref s0), (1, .int p1), (2, .int p2)] := hl
  unfold f_AS_tellFault at h
  refine lv_iload_n J.1 J.2.1 d_AS_tellFault_0 rfl (lv_at hl 1 rfl) ?_
  refine lv_if_eq (tgt := 14) J.1 J.2.1 d_AS_tellFault_1 (by decide) (fun c_1 => ?_) (fun c_1 => ?_)
  · replace h := g_t c_1 h
    have h := Option.some.inj h
    have e_0 := (Prod.mk.inj h).1
    have h := (Prod.mk.inj h).2
    rw [← e_0, ← h]
    exact jr_v J hS hP hD d_AS_tellFault_14
  · replace h := g_f c_1 h
    refine lv_aload_n J.1 J.2.1 d_AS_tellFault_4 rfl (lv_at hl 0 rfl) ?_
    refine lv_iload_n J.1 J.2.1 d_AS_tellFault_5 rfl (lv_at hl 1 rfl) ?_
    refine jp J hJ hP hD hS 0 rfl rfl i_AS t_AS t_AS_ok n_AS 2 (by decide) gf_AS_42 rfl rfl rfl (Nat.le_of_ble_eq_true rfl) d_AS_tellFault_6 (WS' := [(s0, .inr (4, [.ref s1, .int shr, .int p1, .int sfl, .ref l0, .ref s2, .ref s3, .int slc, .ref s4, .ref s5, .ref s6, .int suc]))]) rfl ?_
    clear hP hD hS
    intro H locs hP hD hS
    refine lv_aload_n J.1 J.2.1 d_AS_tellFault_9 rfl (lv_at hl 0 rfl) ?_
    refine lv_iload_n J.1 J.2.1 d_AS_tellFault_10 rfl (lv_at hl 2 rfl) ?_
    refine jp J hJ hP hD hS 0 rfl rfl i_AS t_AS t_AS_ok n_AS 3 (by decide) gf_AS_45 rfl rfl rfl (Nat.le_of_ble_eq_true rfl) d_AS_tellFault_11 (WS' := [(s0, .inr (4, [.ref s1, .int shr, .int p1, .int p2, .ref l0, .ref s2, .ref s3, .int slc, .ref s4, .ref s5, .ref s6, .int suc]))]) rfl ?_
    clear hP hD hS
    intro H locs hP hD hS
    have h := Option.some.inj h
    have e_0 := (Prod.mk.inj h).1
    have h := (Prod.mk.inj h).2
    rw [← e_0, ← h]
    exact jr_v J hS hP hD d_AS_tellFault_14

theorem hd_AS_lineBehind : y_AS_lineBehind.cls ≠ "java/lang/invoke/MethodHandle" ∧ y_AS_lineBehind.cls ≠ "java/lang/invoke/VarHandle" ∧ (parseMethodDescriptor y_AS_lineBehind.desc).map (fun d => d.parameters.length) = some 0 := by decide +kernel
def f_AS_lineBehind (shr : Int32) (lor : Int32) (lnu : Int32) : Option (Int32) := (if (lor) = (-1) then (some shr) else (if (lor) = 25 then (some (shr + 1)) else (if (lor) = 26 then (some (shr + lnu)) else (if (lor) = 27 then (some lnu) else (some (shr + 2))))))
set_option maxHeartbeats 4000000 in
set_option maxRecDepth 100000 in
theorem ct_AS_lineBehind (l : Launch) (E : jz_E) (l0 s0 s1 s2 s3 s4 s5 s6 : Nat) (sz : Nat) (shr : Int32) (sft : Int32) (sfl : Int32) (slc : Int32) (suc : Int32) (l9 : Nat) (lat : Int32) (len : Int32) (llb : Int64) (lor : Int32) (laa : Int32) (lbb : Int32) (lnu : Int32) (lwa : Int64) (o_r : Int32)  (h : f_AS_lineBehind shr lor lnu = some o_r) : CTi l E y_AS_lineBehind c_AS_lineBehind 1 (some .int) ({ frames := 0, cells := 0, slots := 0, locals := 0 }) [.ref s0] [(s0, .inr (4, [.ref s1, .int shr, .int sft, .int sfl, .ref l0, .ref s2, .ref s3, .int slc, .ref s4, .ref s5, .ref s6, .int suc])), (l0, .inr (3, [.ref l9, .int lat, .int len, .long llb, .int lor, .int laa, .int lbb, .int lnu, .long lwa]))] sz o_r [(s0, .inr (4, [.ref s1, .int shr, .int sft, .int sfl, .ref l0, .ref s2, .ref s3, .int slc, .ref s4, .ref s5, .ref s6, .int suc])), (l0, .inr (3, [.ref l9, .int lat, .int len, .long llb, .int lor, .int laa, .int lbb, .int lnu, .long lwa]))] := by
  refine jw (by decide +kernel) (Nat.le_of_ble_eq_true rfl) ?_
  intro p e s m below meth c A ls J hJ hAe hsz hA hZ hP hD hl
  rw [← hAe]
  have hS : va_S A s.heap s.heap [] := va_S.rf
  have hl : lv_has ls 1 [(0, .ref s0)] := hl
  unfold f_AS_lineBehind at h
  refine lv_aload_n J.1 J.2.1 d_AS_lineBehind_0 rfl (lv_at hl 0 rfl) ?_
  refine jg J hJ hP 0 rfl rfl i_AS 4 (by decide) gf_AS_18 rfl d_AS_lineBehind_1 ?_
  refine jgN J hJ hP 1 rfl rfl i_LI 4 (by decide) gn_AS_77 rfl d_AS_lineBehind_4 ?_
  by_cases c_1 : (lor) = (-1)
  · replace h := g_t c_1 h
    refine lv_lookup (off := 41) (tgt := 48) J.1 J.2.1 d_AS_lineBehind_7 (by decide) (by rw [c_1]; rfl) (by decide) ?_
    refine lv_aload_n J.1 J.2.1 d_AS_lineBehind_48 rfl (lv_at hl 0 rfl) ?_
    refine jg J hJ hP 0 rfl rfl i_AS 1 (by decide) gf_AS_38 rfl d_AS_lineBehind_49 ?_
    have h := Option.some.inj h
    rw [← h]
    exact jr_i J hS hP hD rfl d_AS_lineBehind_52
  replace h := g_f c_1 h
  by_cases c_2 : (lor) = 25
  · replace h := g_t c_2 h
    refine lv_lookup (off := 46) (tgt := 53) J.1 J.2.1 d_AS_lineBehind_7 (by decide) (by rw [c_2]; rfl) (by decide) ?_
    refine lv_aload_n J.1 J.2.1 d_AS_lineBehind_53 rfl (lv_at hl 0 rfl) ?_
    refine jg J hJ hP 0 rfl rfl i_AS 1 (by decide) gf_AS_38 rfl d_AS_lineBehind_54 ?_
    refine lv_iconst (v := 1) J.1 J.2.1 d_AS_lineBehind_57 (by decide) ?_
    refine lv_iadd J.1 J.2.1 d_AS_lineBehind_58 ?_
    have h := Option.some.inj h
    rw [← h]
    exact jr_i J hS hP hD rfl d_AS_lineBehind_59
  replace h := g_f c_2 h
  by_cases c_3 : (lor) = 26
  · replace h := g_t c_3 h
    refine lv_lookup (off := 53) (tgt := 60) J.1 J.2.1 d_AS_lineBehind_7 (by decide) (by rw [c_3]; rfl) (by decide) ?_
    refine lv_aload_n J.1 J.2.1 d_AS_lineBehind_60 rfl (lv_at hl 0 rfl) ?_
    refine jg J hJ hP 0 rfl rfl i_AS 1 (by decide) gf_AS_38 rfl d_AS_lineBehind_61 ?_
    refine lv_aload_n J.1 J.2.1 d_AS_lineBehind_64 rfl (lv_at hl 0 rfl) ?_
    refine jg J hJ hP 0 rfl rfl i_AS 4 (by decide) gf_AS_18 rfl d_AS_lineBehind_65 ?_
    refine jgN J hJ hP 1 rfl rfl i_LI 7 (by decide) gn_AS_80 rfl d_AS_lineBehind_68 ?_
    refine lv_iadd J.1 J.2.1 d_AS_lineBehind_71 ?_
    have h := Option.some.inj h
    rw [← h]
    exact jr_i J hS hP hD rfl d_AS_lineBehind_72
  replace h := g_f c_3 h
  by_cases c_4 : (lor) = 27
  · replace h := g_t c_4 h
    refine lv_lookup (off := 66) (tgt := 73) J.1 J.2.1 d_AS_lineBehind_7 (by decide) (by rw [c_4]; rfl) (by decide) ?_
    refine lv_aload_n J.1 J.2.1 d_AS_lineBehind_73 rfl (lv_at hl 0 rfl) ?_
    refine jg J hJ hP 0 rfl rfl i_AS 4 (by decide) gf_AS_18 rfl d_AS_lineBehind_74 ?_
    refine jgN J hJ hP 1 rfl rfl i_LI 7 (by decide) gn_AS_80 rfl d_AS_lineBehind_77 ?_
    have h := Option.some.inj h
    rw [← h]
    exact jr_i J hS hP hD rfl d_AS_lineBehind_80
  replace h := g_f c_4 h
  refine lv_lookup (off := 74) (tgt := 81) J.1 J.2.1 d_AS_lineBehind_7 (by decide) (by show Op.lookupswitch.offset [((-1), 41), (25, 46), (26, 53), (27, 66)] (74) _ = _; rw [lv_osw c_1 (by decide)]; rw [lv_osw c_2 (by decide)]; rw [lv_osw c_3 (by decide)]; rw [lv_osw c_4 (by decide)]; rfl) (by decide) ?_
  refine lv_aload_n J.1 J.2.1 d_AS_lineBehind_81 rfl (lv_at hl 0 rfl) ?_
  refine jg J hJ hP 0 rfl rfl i_AS 1 (by decide) gf_AS_38 rfl d_AS_lineBehind_82 ?_
  refine lv_iconst (v := 2) J.1 J.2.1 d_AS_lineBehind_85 (by decide) ?_
  refine lv_iadd J.1 J.2.1 d_AS_lineBehind_86 ?_
  have h := Option.some.inj h
  rw [← h]
  exact jr_i J hS hP hD rfl d_AS_lineBehind_87

theorem hd_AS_addressOf : y_AS_addressOf.cls ≠ "java/lang/invoke/MethodHandle" ∧ y_AS_addressOf.cls ≠ "java/lang/invoke/VarHandle" ∧ (parseMethodDescriptor y_AS_addressOf.desc).map (fun d => d.parameters.length) = some 1 := by decide +kernel
def b_AS_addressOf_2 : Nat → Int32 → (Nat → Int64) → (Nat → Int32) → Int64 → Int32 → Option (Int32)
  | 0, _, _, _, _, _ => none
  | n + 1, slc, slb, sla, x1, x3 => (if slc ≤ x3 then (some (-1)) else (if ck x3 100 then (if (lg_cmp (slb x3.toNatClampNeg) x1) = (0 : Int32) then (if ck x3 100 then (some (sla x3.toNatClampNeg)) else none) else b_AS_addressOf_2 n slc slb sla x1 (x3 + 1)) else none))
def f_AS_addressOf (slc : Int32) (slb : Nat → Int64) (sla : Nat → Int32) (p1 : Int64) : Option (Int32) := b_AS_addressOf_2 65536 slc slb sla p1 0
set_option maxHeartbeats 4000000 in
set_option maxRecDepth 100000 in
theorem kb_AS_addressOf_2 {p : Program} {l : Launch} {e : Env} {s : State} {m : MethodId} {below : List Frame} {meth : Method} {c : Code} {A : Nat → Prop} {E : jz_E} {l0 s0 s1 s2 s3 s4 s5 s6 : Nat} {p1 : Int64} {o_r : Int32} (J : JC p s m ([.ref s0, .long p1] : List Value).toArray meth c c_AS_addressOf 4 (some .int) y_AS_addressOf.cls) (hJ : jE E s) (hA : ∀ q : Nat, s.heap.size ≤ q → A q) (hZ : jz_ok E A s s.heap) : ∀ (n : Nat) (shr : Int32) (sft : Int32) (sfl : Int32) (slc : Int32) (suc : Int32) (slb : Nat → Int64) (sla : Nat → Int32) (x1 : Int64) (x3 : Int32) (H : Heap) (locs : List Loc) (ls : Array Slot), b_AS_addressOf_2 n slc slb sla x1 x3 = some o_r → va_P E.1 classes [(s0, .inr (4, [.ref s1, .int shr, .int sft, .int sfl, .ref l0, .ref s2, .ref s3, .int slc, .ref s4, .ref s5, .ref s6, .int suc])), (s2, .inl (E.2.1 1, 100, .inr (.inl slb))), (s3, .inl (E.2.1 0, 100, .inl sla))] H → va_D A [(s0, .inr (4, [.ref s1, .int shr, .int sft, .int sfl, .ref l0, .ref s2, .ref s3, .int slc, .ref s4, .ref s5, .ref s6, .int suc])), (s2, .inl (E.2.1 1, 100, .inr (.inl slb))), (s3, .inl (E.2.1 0, 100, .inl sla))] → va_S A s.heap H locs → lv_has ls 4 [(0, .ref s0), (1, .long x1), (3, .int x3)] → W p l e ({ frames := 0, cells := 0, slots := 0, locals := 0 }) s m ([.ref s0, .long p1] : List Value).toArray below meth c H locs 0 0 (MQ below (va_Qi (fun (r' : Int32) (u : va_W) => r' = o_r ∧ u = [(s0, .inr (4, [.ref s1, .int shr, .int sft, .int sfl, .ref l0, .ref s2, .ref s3, .int slc, .ref s4, .ref s5, .ref s6, .int suc])), (s2, .inl (E.2.1 1, 100, .inr (.inl slb))), (s3, .inl (E.2.1 0, 100, .inl sla))]) (BW E A) A) ([.ref s0, .long p1] : List Value).toArray s 0 0 A) (F0 m 2 ls []) := by
  intro n
  induction n with
  | zero => intro shr sft sfl slc suc slb sla x1 x3 H locs ls h; cases h
  | succ n ih =>
    intro shr sft sfl slc suc slb sla x1 x3 H locs ls h hP hD hS hl
    rw [b_AS_addressOf_2] at h
    refine lv_iload_n J.1 J.2.1 d_AS_addressOf_2 rfl (lv_at hl 2 rfl) ?_
    refine lv_aload_n J.1 J.2.1 d_AS_addressOf_3 rfl (lv_at hl 0 rfl) ?_
    refine jg J hJ hP 0 rfl rfl i_AS 7 (by decide) gf_AS_48 rfl d_AS_addressOf_4 ?_
    refine lv_icmp_ge (tgt := 34) J.1 J.2.1 d_AS_addressOf_7 (by decide) (fun c_1 => ?_) (fun c_1 => ?_)
    · replace h := g_t c_1 h
      refine lv_iconst (v := (-1)) J.1 J.2.1 d_AS_addressOf_34 (by decide) ?_
      have h := Option.some.inj h
      rw [← h]
      exact jr_i J hS hP hD rfl d_AS_addressOf_35
    · replace h := g_f c_1 h
      refine lv_aload_n J.1 J.2.1 d_AS_addressOf_10 rfl (lv_at hl 0 rfl) ?_
      refine jg J hJ hP 0 rfl rfl i_AS 5 (by decide) gf_AS_22 rfl d_AS_addressOf_11 ?_
      refine lv_iload_n J.1 J.2.1 d_AS_addressOf_14 rfl (lv_at hl 2 rfl) ?_
      replace h := g_ck h
      obtain ⟨k_2, h⟩ := h
      refine va_lald J.1 J.2.1 hJ.1 hP 1 1 rfl rfl k_2 d_AS_addressOf_15 ?_
      refine lv_lload_n J.1 J.2.1 d_AS_addressOf_16 rfl (lv_at hl 1 rfl) ?_
      refine W.lcmp J.1 J.2.1 d_AS_addressOf_17 ?_
      refine lv_if_ne (tgt := 28) J.1 J.2.1 d_AS_addressOf_18 (by decide) (fun c_3 => ?_) (fun c_3 => ?_)
      · replace h := g_f c_3 h
        refine lv_iinc (v := (x3 + 1)) (lv' := [(3, .int (x3 + 1)), (0, .ref s0), (1, .long x1)]) J.1 J.2.1 d_AS_addressOf_28 hl (k := 2) rfl rfl (by decide) rfl ?_
        clear hl
        intro ls hl
        refine lv_goto (tgt := 2) J.1 J.2.1 d_AS_addressOf_31 (by decide) ?_
        exact ih _ _ _ _ _ _ _ _ _ _ _ _ h hP hD hS (lv_sub hl [1, 2, 0] rfl)
      · replace h := g_t c_3 h
        refine lv_aload_n J.1 J.2.1 d_AS_addressOf_21 rfl (lv_at hl 0 rfl) ?_
        refine jg J hJ hP 0 rfl rfl i_AS 6 (by decide) gf_AS_26 rfl d_AS_addressOf_22 ?_
        refine lv_iload_n J.1 J.2.1 d_AS_addressOf_25 rfl (lv_at hl 2 rfl) ?_
        replace h := g_ck h
        obtain ⟨k_4, h⟩ := h
        refine jai J hJ hP 2 rfl k_4 d_AS_addressOf_26 ?_
        have h := Option.some.inj h
        rw [← h]
        exact jr_i J hS hP hD rfl d_AS_addressOf_27
set_option maxHeartbeats 4000000 in
set_option maxRecDepth 100000 in
theorem ct_AS_addressOf (l : Launch) (E : jz_E) (l0 s0 s1 s2 s3 s4 s5 s6 : Nat) (sz : Nat) (shr : Int32) (sft : Int32) (sfl : Int32) (slc : Int32) (suc : Int32) (slb : Nat → Int64) (sla : Nat → Int32) (p1 : Int64) (o_r : Int32)  (h : f_AS_addressOf slc slb sla p1 = some o_r) : CTi l E y_AS_addressOf c_AS_addressOf 4 (some .int) ({ frames := 0, cells := 0, slots := 0, locals := 0 }) [.ref s0, .long p1] [(s0, .inr (4, [.ref s1, .int shr, .int sft, .int sfl, .ref l0, .ref s2, .ref s3, .int slc, .ref s4, .ref s5, .ref s6, .int suc])), (s2, .inl (E.2.1 1, 100, .inr (.inl slb))), (s3, .inl (E.2.1 0, 100, .inl sla))] sz o_r [(s0, .inr (4, [.ref s1, .int shr, .int sft, .int sfl, .ref l0, .ref s2, .ref s3, .int slc, .ref s4, .ref s5, .ref s6, .int suc])), (s2, .inl (E.2.1 1, 100, .inr (.inl slb))), (s3, .inl (E.2.1 0, 100, .inl sla))] := by
  refine jw (by decide +kernel) (Nat.le_of_ble_eq_true rfl) ?_
  intro p e s m below meth c A ls J hJ hAe hsz hA hZ hP hD hl
  rw [← hAe]
  have hS : va_S A s.heap s.heap [] := va_S.rf
  have hl : lv_has ls 4 [(0, .ref s0), (1, .long p1)] := hl
  unfold f_AS_addressOf at h
  refine lv_iconst (v := 0) J.1 J.2.1 d_AS_addressOf_0 (by decide) ?_
  refine lv_istore_n (lv' := [(3, .int 0), (0, .ref s0), (1, .long p1)]) J.1 J.2.1 d_AS_addressOf_1 rfl hl (by decide) rfl ?_
  clear hl
  intro ls hl
  exact kb_AS_addressOf_2 J hJ hA hZ _ _ _ _ _ _ _ _ _ _ _ _ _ h hP hD hS (lv_sub hl [1, 2, 0] rfl)

theorem hd_AS_faultOfLine : y_AS_faultOfLine.cls ≠ "java/lang/invoke/MethodHandle" ∧ y_AS_faultOfLine.cls ≠ "java/lang/invoke/VarHandle" ∧ (parseMethodDescriptor y_AS_faultOfLine.desc).map (fun d => d.parameters.length) = some 1 := by decide +kernel
def b_AS_faultOfLine_28 (shr : Int32) (slc : Int32) (slb : Nat → Int64) (sla : Nat → Int32) (llb : Int64) (lor : Int32) (lnu : Int32) (x1 : Int32) : Option (Int32) := (if (lg_cmp llb 0) = (0 : Int32) then ((f_AS_lineBehind shr lor lnu).bind fun r_2 => (if r_2 ≤ x1 then (some 0) else (some 4))) else ((f_AS_addressOf slc slb sla llb).bind fun r_4 => (if r_4 = (-1 : Int32) then (if slc < (100 : Int32) then ((f_AS_lineBehind shr lor lnu).bind fun r_7 => (if r_7 ≤ x1 then (some 0) else (some 4))) else (some 3)) else (some 2))))
def f_AS_faultOfLine (shr : Int32) (slc : Int32) (slb : Nat → Int64) (sla : Nat → Int32) (llb : Int64) (lor : Int32) (lnu : Int32) (p1 : Int32) : Option (Int32) := (if lor = (27 : Int32) then (if shr ≤ lnu then b_AS_faultOfLine_28 shr slc slb sla llb lor lnu p1 else (some 1)) else b_AS_faultOfLine_28 shr slc slb sla llb lor lnu p1)
set_option maxHeartbeats 4000000 in
set_option maxRecDepth 100000 in
theorem kb_AS_faultOfLine_28 {p : Program} {l : Launch} {e : Env} {s : State} {m : MethodId} {below : List Frame} {meth : Method} {c : Code} {A : Nat → Prop} {E : jz_E} {l0 s0 s1 s2 s3 s4 s5 s6 : Nat} {p1 : Int32} {o_r : Int32} (J : JC p s m ([.ref s0, .int p1] : List Value).toArray meth c c_AS_faultOfLine 2 (some .int) y_AS_faultOfLine.cls) (hJ : jE E s) (hA : ∀ q : Nat, s.heap.size ≤ q → A q) (hZ : jz_ok E A s s.heap) : ∀ (shr : Int32) (sft : Int32) (sfl : Int32) (slc : Int32) (suc : Int32) (slb : Nat → Int64) (sla : Nat → Int32) (l9 : Nat) (lat : Int32) (len : Int32) (llb : Int64) (lor : Int32) (laa : Int32) (lbb : Int32) (lnu : Int32) (lwa : Int64) (x1 : Int32) (H : Heap) (locs : List Loc) (ls : Array Slot), b_AS_faultOfLine_28 shr slc slb sla llb lor lnu x1 = some o_r → va_P E.1 classes [(s0, .inr (4, [.ref s1, .int shr, .int sft, .int sfl, .ref l0, .ref s2, .ref s3, .int slc, .ref s4, .ref s5, .ref s6, .int suc])), (s2, .inl (E.2.1 1, 100, .inr (.inl slb))), (s3, .inl (E.2.1 0, 100, .inl sla)), (l0, .inr (3, [.ref l9, .int lat, .int len, .long llb, .int lor, .int laa, .int lbb, .int lnu, .long lwa]))] H → va_D A [(s0, .inr (4, [.ref s1, .int shr, .int sft, .int sfl, .ref l0, .ref s2, .ref s3, .int slc, .ref s4, .ref s5, .ref s6, .int suc])), (s2, .inl (E.2.1 1, 100, .inr (.inl slb))), (s3, .inl (E.2.1 0, 100, .inl sla)), (l0, .inr (3, [.ref l9, .int lat, .int len, .long llb, .int lor, .int laa, .int lbb, .int lnu, .long lwa]))] → va_S A s.heap H locs → lv_has ls 2 [(0, .ref s0), (1, .int x1)] → W p l e ({ frames := 1, cells := 0, slots := 0, locals := 23 }) s m ([.ref s0, .int p1] : List Value).toArray below meth c H locs 0 0 (MQ below (va_Qi (fun (r' : Int32) (u : va_W) => r' = o_r ∧ u = [(s0, .inr (4, [.ref s1, .int shr, .int sft, .int sfl, .ref l0, .ref s2, .ref s3, .int slc, .ref s4, .ref s5, .ref s6, .int suc])), (s2, .inl (E.2.1 1, 100, .inr (.inl slb))), (s3, .inl (E.2.1 0, 100, .inl sla)), (l0, .inr (3, [.ref l9, .int lat, .int len, .long llb, .int lor, .int laa, .int lbb, .int lnu, .long lwa]))]) (BW E A) A) ([.ref s0, .int p1] : List Value).toArray s 0 0 A) (F0 m 28 ls []) := by
  intro shr sft sfl slc suc slb sla l9 lat len llb lor laa lbb lnu lwa x1 H locs ls h hP hD hS hl
  rw [b_AS_faultOfLine_28] at h
  refine lv_aload_n J.1 J.2.1 d_AS_faultOfLine_28 rfl (lv_at hl 0 rfl) ?_
  refine jg J hJ hP 0 rfl rfl i_AS 4 (by decide) gf_AS_18 rfl d_AS_faultOfLine_29 ?_
  refine jgN J hJ hP 3 rfl rfl i_LI 3 (by decide) gn_AS_83 rfl d_AS_faultOfLine_32 ?_
  refine lv_lconst (v := 0) J.1 J.2.1 d_AS_faultOfLine_35 (by decide) ?_
  refine W.lcmp J.1 J.2.1 d_AS_faultOfLine_36 ?_
  refine lv_if_eq (tgt := 68) J.1 J.2.1 d_AS_faultOfLine_37 (by decide) (fun c_1 => ?_) (fun c_1 => ?_)
  · replace h := g_t c_1 h
    refine lv_aload_n J.1 J.2.1 d_AS_faultOfLine_68 rfl (lv_at hl 0 rfl) ?_
    replace h := g_bd h
    obtain ⟨r_2, q_2, h⟩ := h
    have hq := ct_AS_lineBehind l E l0 s0 s1 s2 s3 s4 s5 s6 H.size shr sft sfl slc suc l9 lat len llb lor laa lbb lnu lwa r_2 q_2
    have hr := jrunV (p := p) (e := e) (below := below) (R := ({ frames := 1, cells := 0, slots := 0, locals := 23 })) (cells := 0) (slots := 0) (As := []) (rest := []) J hJ hA hZ hP hD hS hq [0, 3] rfl (by decide) gl_AS_91 gi_AS_lineBehind gsel_AS_lineBehind gini_AS gc_AS_lineBehind hd_AS_lineBehind ⟨rfl, rfl, Nat.le_of_ble_eq_true rfl, Nat.le_of_ble_eq_true rfl⟩ rfl rfl hl.1 rfl rfl (Nat.le_of_ble_eq_true rfl) d_AS_faultOfLine_69 ⟨Nat.zero_le _, Nat.zero_le _⟩
    clear hq
    refine jk_i hr hA hP hD hS [0, 3] [1, 2] (WR := [(s2, .inl (E.2.1 1, 100, .inr (.inl slb))), (s3, .inl (E.2.1 0, 100, .inl sla))]) rfl rfl (by decide) (by decide) [2, 0, 1, 3] (WF := [(s0, .inr (4, [.ref s1, .int shr, .int sft, .int sfl, .ref l0, .ref s2, .ref s3, .int slc, .ref s4, .ref s5, .ref s6, .int suc])), (s2, .inl (E.2.1 1, 100, .inr (.inl slb))), (s3, .inl (E.2.1 0, 100, .inl sla)), (l0, .inr (3, [.ref l9, .int lat, .int len, .long llb, .int lor, .int laa, .int lbb, .int lnu, .long lwa]))]) rfl (by decide) ?_
    clear hP hD hS
    intro H locs hP hD hS
    clear hr
    refine lv_iload_n J.1 J.2.1 d_AS_faultOfLine_72 rfl (lv_at hl 1 rfl) ?_
    refine lv_icmp_le (tgt := 80) J.1 J.2.1 d_AS_faultOfLine_73 (by decide) (fun c_3 => ?_) (fun c_3 => ?_)
    · replace h := g_t c_3 h
      refine lv_iconst (v := 0) J.1 J.2.1 d_AS_faultOfLine_80 (by decide) ?_
      have h := Option.some.inj h
      rw [← h]
      exact jr_i J hS hP hD rfl d_AS_faultOfLine_81
    · replace h := g_f c_3 h
      refine lv_iconst (v := 4) J.1 J.2.1 d_AS_faultOfLine_76 (by decide) ?_
      refine lv_goto (tgt := 81) J.1 J.2.1 d_AS_faultOfLine_77 (by decide) ?_
      have h := Option.some.inj h
      rw [← h]
      exact jr_i J hS hP hD rfl d_AS_faultOfLine_81
  · replace h := g_f c_1 h
    refine lv_aload_n J.1 J.2.1 d_AS_faultOfLine_40 rfl (lv_at hl 0 rfl) ?_
    refine lv_aload_n J.1 J.2.1 d_AS_faultOfLine_41 rfl (lv_at hl 0 rfl) ?_
    refine jg J hJ hP 0 rfl rfl i_AS 4 (by decide) gf_AS_18 rfl d_AS_faultOfLine_42 ?_
    refine jgN J hJ hP 3 rfl rfl i_LI 3 (by decide) gn_AS_83 rfl d_AS_faultOfLine_45 ?_
    replace h := g_bd h
    obtain ⟨r_4, q_4, h⟩ := h
    have hq := ct_AS_addressOf l E l0 s0 s1 s2 s3 s4 s5 s6 H.size shr sft sfl slc suc slb sla llb r_4 q_4
    have hr := jrunV (p := p) (e := e) (below := below) (R := ({ frames := 1, cells := 0, slots := 0, locals := 23 })) (cells := 0) (slots := 0) (As := [.long llb]) (rest := []) J hJ hA hZ hP hD hS hq [0, 1, 2] rfl (by decide) gl_AS_87 gi_AS_addressOf gsel_AS_addressOf gini_AS gc_AS_addressOf hd_AS_addressOf ⟨rfl, rfl, Nat.le_of_ble_eq_true rfl, Nat.le_of_ble_eq_true rfl⟩ rfl rfl hl.1 rfl rfl (Nat.le_of_ble_eq_true rfl) d_AS_faultOfLine_48 ⟨Nat.zero_le _, Nat.zero_le _⟩
    clear hq
    refine jk_i hr hA hP hD hS [0, 1, 2] [3] (WR := [(l0, .inr (3, [.ref l9, .int lat, .int len, .long llb, .int lor, .int laa, .int lbb, .int lnu, .long lwa]))]) rfl rfl (by decide) (by decide) [1, 2, 3, 0] (WF := [(s0, .inr (4, [.ref s1, .int shr, .int sft, .int sfl, .ref l0, .ref s2, .ref s3, .int slc, .ref s4, .ref s5, .ref s6, .int suc])), (s2, .inl (E.2.1 1, 100, .inr (.inl slb))), (s3, .inl (E.2.1 0, 100, .inl sla)), (l0, .inr (3, [.ref l9, .int lat, .int len, .long llb, .int lor, .int laa, .int lbb, .int lnu, .long lwa]))]) rfl (by decide) ?_
    clear hP hD hS
    intro H locs hP hD hS
    clear hr
    refine lv_iconst (v := (-1)) J.1 J.2.1 d_AS_faultOfLine_51 (by decide) ?_
    refine lv_icmp_eq (tgt := 57) J.1 J.2.1 d_AS_faultOfLine_52 (by decide) (fun c_5 => ?_) (fun c_5 => ?_)
    · replace h := g_t c_5 h
      refine lv_aload_n J.1 J.2.1 d_AS_faultOfLine_57 rfl (lv_at hl 0 rfl) ?_
      refine jg J hJ hP 0 rfl rfl i_AS 7 (by decide) gf_AS_48 rfl d_AS_faultOfLine_58 ?_
      refine lv_bipush (v := 100) J.1 J.2.1 d_AS_faultOfLine_61 (by decide) ?_
      refine lv_icmp_lt (tgt := 68) J.1 J.2.1 d_AS_faultOfLine_63 (by decide) (fun c_6 => ?_) (fun c_6 => ?_)
      · replace h := g_t c_6 h
        refine lv_aload_n J.1 J.2.1 d_AS_faultOfLine_68 rfl (lv_at hl 0 rfl) ?_
        replace h := g_bd h
        obtain ⟨r_7, q_7, h⟩ := h
        have hq := ct_AS_lineBehind l E l0 s0 s1 s2 s3 s4 s5 s6 H.size shr sft sfl slc suc l9 lat len llb lor laa lbb lnu lwa r_7 q_7
        have hr := jrunV (p := p) (e := e) (below := below) (R := ({ frames := 1, cells := 0, slots := 0, locals := 23 })) (cells := 0) (slots := 0) (As := []) (rest := []) J hJ hA hZ hP hD hS hq [0, 3] rfl (by decide) gl_AS_91 gi_AS_lineBehind gsel_AS_lineBehind gini_AS gc_AS_lineBehind hd_AS_lineBehind ⟨rfl, rfl, Nat.le_of_ble_eq_true rfl, Nat.le_of_ble_eq_true rfl⟩ rfl rfl hl.1 rfl rfl (Nat.le_of_ble_eq_true rfl) d_AS_faultOfLine_69 ⟨Nat.zero_le _, Nat.zero_le _⟩
        clear hq
        refine jk_i hr hA hP hD hS [0, 3] [1, 2] (WR := [(s2, .inl (E.2.1 1, 100, .inr (.inl slb))), (s3, .inl (E.2.1 0, 100, .inl sla))]) rfl rfl (by decide) (by decide) [2, 0, 1, 3] (WF := [(s0, .inr (4, [.ref s1, .int shr, .int sft, .int sfl, .ref l0, .ref s2, .ref s3, .int slc, .ref s4, .ref s5, .ref s6, .int suc])), (s2, .inl (E.2.1 1, 100, .inr (.inl slb))), (s3, .inl (E.2.1 0, 100, .inl sla)), (l0, .inr (3, [.ref l9, .int lat, .int len, .long llb, .int lor, .int laa, .int lbb, .int lnu, .long lwa]))]) rfl (by decide) ?_
        clear hP hD hS
        intro H locs hP hD hS
        clear hr
        refine lv_iload_n J.1 J.2.1 d_AS_faultOfLine_72 rfl (lv_at hl 1 rfl) ?_
        refine lv_icmp_le (tgt := 80) J.1 J.2.1 d_AS_faultOfLine_73 (by decide) (fun c_8 => ?_) (fun c_8 => ?_)
        · replace h := g_t c_8 h
          refine lv_iconst (v := 0) J.1 J.2.1 d_AS_faultOfLine_80 (by decide) ?_
          have h := Option.some.inj h
          rw [← h]
          exact jr_i J hS hP hD rfl d_AS_faultOfLine_81
        · replace h := g_f c_8 h
          refine lv_iconst (v := 4) J.1 J.2.1 d_AS_faultOfLine_76 (by decide) ?_
          refine lv_goto (tgt := 81) J.1 J.2.1 d_AS_faultOfLine_77 (by decide) ?_
          have h := Option.some.inj h
          rw [← h]
          exact jr_i J hS hP hD rfl d_AS_faultOfLine_81
      · replace h := g_f c_6 h
        refine lv_iconst (v := 3) J.1 J.2.1 d_AS_faultOfLine_66 (by decide) ?_
        have h := Option.some.inj h
        rw [← h]
        exact jr_i J hS hP hD rfl d_AS_faultOfLine_67
    · replace h := g_f c_5 h
      refine lv_iconst (v := 2) J.1 J.2.1 d_AS_faultOfLine_55 (by decide) ?_
      have h := Option.some.inj h
      rw [← h]
      exact jr_i J hS hP hD rfl d_AS_faultOfLine_56
set_option maxHeartbeats 4000000 in
set_option maxRecDepth 100000 in
theorem ct_AS_faultOfLine (l : Launch) (E : jz_E) (l0 s0 s1 s2 s3 s4 s5 s6 : Nat) (sz : Nat) (shr : Int32) (sft : Int32) (sfl : Int32) (slc : Int32) (suc : Int32) (slb : Nat → Int64) (sla : Nat → Int32) (l9 : Nat) (lat : Int32) (len : Int32) (llb : Int64) (lor : Int32) (laa : Int32) (lbb : Int32) (lnu : Int32) (lwa : Int64) (p1 : Int32) (o_r : Int32)  (h : f_AS_faultOfLine shr slc slb sla llb lor lnu p1 = some o_r) : CTi l E y_AS_faultOfLine c_AS_faultOfLine 2 (some .int) ({ frames := 1, cells := 0, slots := 0, locals := 23 }) [.ref s0, .int p1] [(s0, .inr (4, [.ref s1, .int shr, .int sft, .int sfl, .ref l0, .ref s2, .ref s3, .int slc, .ref s4, .ref s5, .ref s6, .int suc])), (s2, .inl (E.2.1 1, 100, .inr (.inl slb))), (s3, .inl (E.2.1 0, 100, .inl sla)), (l0, .inr (3, [.ref l9, .int lat, .int len, .long llb, .int lor, .int laa, .int lbb, .int lnu, .long lwa]))] sz o_r [(s0, .inr (4, [.ref s1, .int shr, .int sft, .int sfl, .ref l0, .ref s2, .ref s3, .int slc, .ref s4, .ref s5, .ref s6, .int suc])), (s2, .inl (E.2.1 1, 100, .inr (.inl slb))), (s3, .inl (E.2.1 0, 100, .inl sla)), (l0, .inr (3, [.ref l9, .int lat, .int len, .long llb, .int lor, .int laa, .int lbb, .int lnu, .long lwa]))] := by
  refine jw (by decide +kernel) (Nat.le_of_ble_eq_true rfl) ?_
  intro p e s m below meth c A ls J hJ hAe hsz hA hZ hP hD hl
  rw [← hAe]
  have hS : va_S A s.heap s.heap [] := va_S.rf
  have hl : lv_has ls 2 [(0, .ref s0), (1, .int p1)] := hl
  unfold f_AS_faultOfLine at h
  refine lv_aload_n J.1 J.2.1 d_AS_faultOfLine_0 rfl (lv_at hl 0 rfl) ?_
  refine jg J hJ hP 0 rfl rfl i_AS 4 (by decide) gf_AS_18 rfl d_AS_faultOfLine_1 ?_
  refine jgN J hJ hP 3 rfl rfl i_LI 4 (by decide) gn_AS_77 rfl d_AS_faultOfLine_4 ?_
  refine lv_bipush (v := 27) J.1 J.2.1 d_AS_faultOfLine_7 (by decide) ?_
  refine lv_icmp_ne (tgt := 28) J.1 J.2.1 d_AS_faultOfLine_9 (by decide) (fun c_9 => ?_) (fun c_9 => ?_)
  · replace h := g_f c_9 h
    exact kb_AS_faultOfLine_28 J hJ hA hZ _ _ _ _ _ _ _ _ _ _ _ _ _ _ _ _ _ _ _ _ h hP hD hS (lv_sub hl [0, 1] rfl)
  · replace h := g_t c_9 h
    refine lv_aload_n J.1 J.2.1 d_AS_faultOfLine_12 rfl (lv_at hl 0 rfl) ?_
    refine jg J hJ hP 0 rfl rfl i_AS 4 (by decide) gf_AS_18 rfl d_AS_faultOfLine_13 ?_
    refine jgN J hJ hP 3 rfl rfl i_LI 7 (by decide) gn_AS_80 rfl d_AS_faultOfLine_16 ?_
    refine lv_aload_n J.1 J.2.1 d_AS_faultOfLine_19 rfl (lv_at hl 0 rfl) ?_
    refine jg J hJ hP 0 rfl rfl i_AS 1 (by decide) gf_AS_38 rfl d_AS_faultOfLine_20 ?_
    refine lv_icmp_ge (tgt := 28) J.1 J.2.1 d_AS_faultOfLine_23 (by decide) (fun c_10 => ?_) (fun c_10 => ?_)
    · replace h := g_t c_10 h
      exact kb_AS_faultOfLine_28 J hJ hA hZ _ _ _ _ _ _ _ _ _ _ _ _ _ _ _ _ _ _ _ _ h hP hD hS (lv_sub hl [0, 1] rfl)
    · replace h := g_f c_10 h
      refine lv_iconst (v := 1) J.1 J.2.1 d_AS_faultOfLine_26 (by decide) ?_
      have h := Option.some.inj h
      rw [← h]
      exact jr_i J hS hP hD rfl d_AS_faultOfLine_27

theorem hd_AS_clearWords : y_AS_clearWords.cls ≠ "java/lang/invoke/MethodHandle" ∧ y_AS_clearWords.cls ≠ "java/lang/invoke/VarHandle" ∧ (parseMethodDescriptor y_AS_clearWords.desc).map (fun d => d.parameters.length) = some 1 := by decide +kernel
def b_AS_clearWords_5 : Nat → (Nat → Int32) → Int32 → Int32 → Option ((Nat → Int32))
  | 0, _, _, _ => none
  | n + 1, swd, x1, x2 => (if x1 ≤ x2 then (some swd) else (if ck x2 1024 then b_AS_clearWords_5 n (upd swd x2.toNatClampNeg 0) x1 (x2 + 1) else none))
def f_AS_clearWords (shr : Int32) (swd : Nat → Int32) (p1 : Int32) : Option ((Nat → Int32)) := b_AS_clearWords_5 65536 swd p1 shr
set_option maxHeartbeats 4000000 in
set_option maxRecDepth 100000 in
theorem kb_AS_clearWords_5 {p : Program} {l : Launch} {e : Env} {s : State} {m : MethodId} {below : List Frame} {meth : Method} {c : Code} {A : Nat → Prop} {E : jz_E} {l0 s0 s1 s2 s3 s4 s5 s6 : Nat} {p1 : Int32} {o_swd : Nat → Int32} (J : JC p s m ([.ref s0, .int p1] : List Value).toArray meth c c_AS_clearWords 3 none y_AS_clearWords.cls) (hJ : jE E s) (hA : ∀ q : Nat, s.heap.size ≤ q → A q) (hZ : jz_ok E A s s.heap) : ∀ (n : Nat) (shr : Int32) (sft : Int32) (sfl : Int32) (slc : Int32) (suc : Int32) (swd : Nat → Int32) (x1 : Int32) (x2 : Int32) (H : Heap) (locs : List Loc) (ls : Array Slot), b_AS_clearWords_5 n swd x1 x2 = some o_swd → va_P E.1 classes [(s0, .inr (4, [.ref s1, .int shr, .int sft, .int sfl, .ref l0, .ref s2, .ref s3, .int slc, .ref s4, .ref s5, .ref s6, .int suc])), (s1, .inl (E.2.1 0, 1024, .inl swd))] H → va_D A [(s0, .inr (4, [.ref s1, .int shr, .int sft, .int sfl, .ref l0, .ref s2, .ref s3, .int slc, .ref s4, .ref s5, .ref s6, .int suc])), (s1, .inl (E.2.1 0, 1024, .inl swd))] → va_S A s.heap H locs → lv_has ls 3 [(0, .ref s0), (1, .int x1), (2, .int x2)] → W p l e ({ frames := 0, cells := 0, slots := 0, locals := 0 }) s m ([.ref s0, .int p1] : List Value).toArray below meth c H locs 0 0 (MQ below (va_Qv (fun (u : va_W) => u = [(s0, .inr (4, [.ref s1, .int shr, .int sft, .int sfl, .ref l0, .ref s2, .ref s3, .int slc, .ref s4, .ref s5, .ref s6, .int suc])), (s1, .inl (E.2.1 0, 1024, .inl o_swd))]) (BW E A) A) ([.ref s0, .int p1] : List Value).toArray s 0 0 A) (F0 m 5 ls []) := by
  intro n
  induction n with
  | zero => intro shr sft sfl slc suc swd x1 x2 H locs ls h; cases h
  | succ n ih =>
    intro shr sft sfl slc suc swd x1 x2 H locs ls h hP hD hS hl
    rw [b_AS_clearWords_5] at h
    refine lv_iload_n J.1 J.2.1 d_AS_clearWords_5 rfl (lv_at hl 2 rfl) ?_
    refine lv_iload_n J.1 J.2.1 d_AS_clearWords_6 rfl (lv_at hl 1 rfl) ?_
    refine lv_icmp_ge (tgt := 23) J.1 J.2.1 d_AS_clearWords_7 (by decide) (fun c_1 => ?_) (fun c_1 => ?_)
    · replace h := g_t c_1 h
      have h := Option.some.inj h
      rw [← h]
      exact jr_v J hS hP hD d_AS_clearWords_23
    · replace h := g_f c_1 h
      refine lv_aload_n J.1 J.2.1 d_AS_clearWords_10 rfl (lv_at hl 0 rfl) ?_
      refine jg J hJ hP 0 rfl rfl i_AS 0 (by decide) gf_AS_9 rfl d_AS_clearWords_11 ?_
      refine lv_iload_n J.1 J.2.1 d_AS_clearWords_14 rfl (lv_at hl 2 rfl) ?_
      refine lv_iconst (v := 0) J.1 J.2.1 d_AS_clearWords_15 (by decide) ?_
      replace h := g_ck h
      obtain ⟨k_2, h⟩ := h
      refine jsi J hJ hP hD hS 1 rfl k_2 d_AS_clearWords_16 (WS' := [(s0, .inr (4, [.ref s1, .int shr, .int sft, .int sfl, .ref l0, .ref s2, .ref s3, .int slc, .ref s4, .ref s5, .ref s6, .int suc])), (s1, .inl (E.2.1 0, 1024, .inl (upd swd x2.toNatClampNeg 0)))]) rfl ?_
      clear hP hD hS
      intro H locs hP hD hS
      refine lv_iinc (v := (x2 + 1)) (lv' := [(2, .int (x2 + 1)), (0, .ref s0), (1, .int x1)]) J.1 J.2.1 d_AS_clearWords_17 hl (k := 2) rfl rfl (by decide) rfl ?_
      clear hl
      intro ls hl
      refine lv_goto (tgt := 5) J.1 J.2.1 d_AS_clearWords_20 (by decide) ?_
      exact ih _ _ _ _ _ _ _ _ _ _ _ h hP hD hS (lv_sub hl [1, 2, 0] rfl)
set_option maxHeartbeats 4000000 in
set_option maxRecDepth 100000 in
theorem ct_AS_clearWords (l : Launch) (E : jz_E) (l0 s0 s1 s2 s3 s4 s5 s6 : Nat) (sz : Nat) (shr : Int32) (sft : Int32) (sfl : Int32) (slc : Int32) (suc : Int32) (swd : Nat → Int32) (p1 : Int32) (o_swd : Nat → Int32)  (h : f_AS_clearWords shr swd p1 = some o_swd) : CTv l E y_AS_clearWords c_AS_clearWords 3 none ({ frames := 0, cells := 0, slots := 0, locals := 0 }) [.ref s0, .int p1] [(s0, .inr (4, [.ref s1, .int shr, .int sft, .int sfl, .ref l0, .ref s2, .ref s3, .int slc, .ref s4, .ref s5, .ref s6, .int suc])), (s1, .inl (E.2.1 0, 1024, .inl swd))] sz [(s0, .inr (4, [.ref s1, .int shr, .int sft, .int sfl, .ref l0, .ref s2, .ref s3, .int slc, .ref s4, .ref s5, .ref s6, .int suc])), (s1, .inl (E.2.1 0, 1024, .inl o_swd))] := by
  refine jw (by decide +kernel) (Nat.le_of_ble_eq_true rfl) ?_
  intro p e s m below meth c A ls J hJ hAe hsz hA hZ hP hD hl
  rw [← hAe]
  have hS : va_S A s.heap s.heap [] := va_S.rf
  have hl : lv_has ls 3 [(0, .ref s0), (1, .int p1)] := hl
  unfold f_AS_clearWords at h
  refine lv_aload_n J.1 J.2.1 d_AS_clearWords_0 rfl (lv_at hl 0 rfl) ?_
  refine jg J hJ hP 0 rfl rfl i_AS 1 (by decide) gf_AS_38 rfl d_AS_clearWords_1 ?_
  refine lv_istore_n (lv' := [(2, .int shr), (0, .ref s0), (1, .int p1)]) J.1 J.2.1 d_AS_clearWords_4 rfl hl (by decide) rfl ?_
  clear hl
  intro ls hl
  exact kb_AS_clearWords_5 J hJ hA hZ _ _ _ _ _ _ _ _ _ _ _ _ h hP hD hS (lv_sub hl [1, 2, 0] rfl)

theorem hd_AS_placeNumber : y_AS_placeNumber.cls ≠ "java/lang/invoke/MethodHandle" ∧ y_AS_placeNumber.cls ≠ "java/lang/invoke/VarHandle" ∧ (parseMethodDescriptor y_AS_placeNumber.desc).map (fun d => d.parameters.length) = some 2 := by decide +kernel
def f_AS_placeNumber (suc : Int32) (swd : Nat → Int32) (sul : Nat → Int64) (sua : Nat → Int32) (suL : Nat → Int32) (lnu : Int32) (lwa : Int64) (p1 : Int32) (p2 : Int32) : Option (Int32 × (Nat → Int32) × (Nat → Int64) × (Nat → Int32) × (Nat → Int32)) := (if ck p1 1024 then (if (lg_cmp lwa 0) = (0 : Int32) then (some (suc, (upd swd p1.toNatClampNeg lnu), sul, sua, suL)) else (if ck suc 1024 then (if ck suc 1024 then (if ck suc 1024 then (some ((suc + 1), (upd swd p1.toNatClampNeg lnu), (vp_updL sul suc.toNatClampNeg lwa), (upd sua suc.toNatClampNeg p1), (upd suL suc.toNatClampNeg p2))) else none) else none) else none)) else none)
set_option maxHeartbeats 4000000 in
set_option maxRecDepth 100000 in
theorem ct_AS_placeNumber (l : Launch) (E : jz_E) (l0 s0 s1 s2 s3 s4 s5 s6 : Nat) (sz : Nat) (shr : Int32) (sft : Int32) (sfl : Int32) (slc : Int32) (suc : Int32) (swd : Nat → Int32) (sul : Nat → Int64) (sua : Nat → Int32) (suL : Nat → Int32) (l9 : Nat) (lat : Int32) (len : Int32) (llb : Int64) (lor : Int32) (laa : Int32) (lbb : Int32) (lnu : Int32) (lwa : Int64) (p1 : Int32) (p2 : Int32) (o_suc : Int32) (o_swd : Nat → Int32) (o_sul : Nat → Int64) (o_sua : Nat → Int32) (o_suL : Nat → Int32)  (h : f_AS_placeNumber suc swd sul sua suL lnu lwa p1 p2 = some (o_suc, o_swd, o_sul, o_sua, o_suL)) : CTv l E y_AS_placeNumber c_AS_placeNumber 3 none ({ frames := 0, cells := 0, slots := 0, locals := 0 }) [.ref s0, .int p1, .int p2] [(s0, .inr (4, [.ref s1, .int shr, .int sft, .int sfl, .ref l0, .ref s2, .ref s3, .int slc, .ref s4, .ref s5, .ref s6, .int suc])), (s1, .inl (E.2.1 0, 1024, .inl swd)), (s4, .inl (E.2.1 1, 1024, .inr (.inl sul))), (s5, .inl (E.2.1 0, 1024, .inl sua)), (s6, .inl (E.2.1 0, 1024, .inl suL)), (l0, .inr (3, [.ref l9, .int lat, .int len, .long llb, .int lor, .int laa, .int lbb, .int lnu, .long lwa]))] sz [(s0, .inr (4, [.ref s1, .int shr, .int sft, .int sfl, .ref l0, .ref s2, .ref s3, .int slc, .ref s4, .ref s5, .ref s6, .int o_suc])), (s1, .inl (E.2.1 0, 1024, .inl o_swd)), (s4, .inl (E.2.1 1, 1024, .inr (.inl o_sul))), (s5, .inl (E.2.1 0, 1024, .inl o_sua)), (s6, .inl (E.2.1 0, 1024, .inl o_suL)), (l0, .inr (3, [.ref l9, .int lat, .int len, .long llb, .int lor, .int laa, .int lbb, .int lnu, .long lwa]))] := by
  refine jw (by decide +kernel) (Nat.le_of_ble_eq_true rfl) ?_
  intro p e s m below meth c A ls J hJ hAe hsz hA hZ hP hD hl
  rw [← hAe]
  have hS : va_S A s.heap s.heap [] := va_S.rf
  have hl : lv_has ls 3 [(0, .ref s0), (1, .int p1), (2, .int p2)] := hl
  unfold f_AS_placeNumber at h
  refine lv_aload_n J.1 J.2.1 d_AS_placeNumber_0 rfl (lv_at hl 0 rfl) ?_
  refine jg J hJ hP 0 rfl rfl i_AS 0 (by decide) gf_AS_9 rfl d_AS_placeNumber_1 ?_
  refine lv_iload_n J.1 J.2.1 d_AS_placeNumber_4 rfl (lv_at hl 1 rfl) ?_
  refine lv_aload_n J.1 J.2.1 d_AS_placeNumber_5 rfl (lv_at hl 0 rfl) ?_
  refine jg J hJ hP 0 rfl rfl i_AS 4 (by decide) gf_AS_18 rfl d_AS_placeNumber_6 ?_
  refine jgN J hJ hP 5 rfl rfl i_LI 7 (by decide) gn_AS_80 rfl d_AS_placeNumber_9 ?_
  replace h := g_ck h
  obtain ⟨k_1, h⟩ := h
  refine jsi J hJ hP hD hS 1 rfl k_1 d_AS_placeNumber_12 (WS' := [(s0, .inr (4, [.ref s1, .int shr, .int sft, .int sfl, .ref l0, .ref s2, .ref s3, .int slc, .ref s4, .ref s5, .ref s6, .int suc])), (s1, .inl (E.2.1 0, 1024, .inl (upd swd p1.toNatClampNeg lnu))), (s4, .inl (E.2.1 1, 1024, .inr (.inl sul))), (s5, .inl (E.2.1 0, 1024, .inl sua)), (s6, .inl (E.2.1 0, 1024, .inl suL)), (l0, .inr (3, [.ref l9, .int lat, .int len, .long llb, .int lor, .int laa, .int lbb, .int lnu, .long lwa]))]) rfl ?_
  clear hP hD hS
  intro H locs hP hD hS
  refine lv_aload_n J.1 J.2.1 d_AS_placeNumber_13 rfl (lv_at hl 0 rfl) ?_
  refine jg J hJ hP 0 rfl rfl i_AS 4 (by decide) gf_AS_18 rfl d_AS_placeNumber_14 ?_
  refine jgN J hJ hP 5 rfl rfl i_LI 8 (by decide) gn_AS_111 rfl d_AS_placeNumber_17 ?_
  refine lv_lconst (v := 0) J.1 J.2.1 d_AS_placeNumber_20 (by decide) ?_
  refine W.lcmp J.1 J.2.1 d_AS_placeNumber_21 ?_
  refine lv_if_eq (tgt := 71) J.1 J.2.1 d_AS_placeNumber_22 (by decide) (fun c_2 => ?_) (fun c_2 => ?_)
  · replace h := g_t c_2 h
    have h := Option.some.inj h
    have e_0 := (Prod.mk.inj h).1
    have h := (Prod.mk.inj h).2
    have e_1 := (Prod.mk.inj h).1
    have h := (Prod.mk.inj h).2
    have e_2 := (Prod.mk.inj h).1
    have h := (Prod.mk.inj h).2
    have e_3 := (Prod.mk.inj h).1
    have h := (Prod.mk.inj h).2
    rw [← e_0, ← e_1, ← e_2, ← e_3, ← h]
    exact jr_v J hS hP hD d_AS_placeNumber_71
  · replace h := g_f c_2 h
    refine lv_aload_n J.1 J.2.1 d_AS_placeNumber_25 rfl (lv_at hl 0 rfl) ?_
    refine jg J hJ hP 0 rfl rfl i_AS 8 (by decide) gf_AS_29 rfl d_AS_placeNumber_26 ?_
    refine lv_aload_n J.1 J.2.1 d_AS_placeNumber_29 rfl (lv_at hl 0 rfl) ?_
    refine jg J hJ hP 0 rfl rfl i_AS 11 (by decide) gf_AS_51 rfl d_AS_placeNumber_30 ?_
    refine lv_aload_n J.1 J.2.1 d_AS_placeNumber_33 rfl (lv_at hl 0 rfl) ?_
    refine jg J hJ hP 0 rfl rfl i_AS 4 (by decide) gf_AS_18 rfl d_AS_placeNumber_34 ?_
    refine jgN J hJ hP 5 rfl rfl i_LI 8 (by decide) gn_AS_111 rfl d_AS_placeNumber_37 ?_
    replace h := g_ck h
    obtain ⟨k_3, h⟩ := h
    refine va_last J.1 J.2.1 hJ.1 hP hD hS 2 1 rfl rfl k_3 d_AS_placeNumber_40 ?_
    clear hP hD hS
    intro H locs hP hD hS
    have hP : va_P E.1 classes [(s0, .inr (4, [.ref s1, .int shr, .int sft, .int sfl, .ref l0, .ref s2, .ref s3, .int slc, .ref s4, .ref s5, .ref s6, .int suc])), (s1, .inl (E.2.1 0, 1024, .inl (upd swd p1.toNatClampNeg lnu))), (s4, .inl (E.2.1 1, 1024, .inr (.inl (vp_updL sul suc.toNatClampNeg lwa)))), (s5, .inl (E.2.1 0, 1024, .inl sua)), (s6, .inl (E.2.1 0, 1024, .inl suL)), (l0, .inr (3, [.ref l9, .int lat, .int len, .long llb, .int lor, .int laa, .int lbb, .int lnu, .long lwa]))] H := hP
    have hD : va_D A [(s0, .inr (4, [.ref s1, .int shr, .int sft, .int sfl, .ref l0, .ref s2, .ref s3, .int slc, .ref s4, .ref s5, .ref s6, .int suc])), (s1, .inl (E.2.1 0, 1024, .inl (upd swd p1.toNatClampNeg lnu))), (s4, .inl (E.2.1 1, 1024, .inr (.inl (vp_updL sul suc.toNatClampNeg lwa)))), (s5, .inl (E.2.1 0, 1024, .inl sua)), (s6, .inl (E.2.1 0, 1024, .inl suL)), (l0, .inr (3, [.ref l9, .int lat, .int len, .long llb, .int lor, .int laa, .int lbb, .int lnu, .long lwa]))] := hD
    refine lv_aload_n J.1 J.2.1 d_AS_placeNumber_41 rfl (lv_at hl 0 rfl) ?_
    refine jg J hJ hP 0 rfl rfl i_AS 9 (by decide) gf_AS_32 rfl d_AS_placeNumber_42 ?_
    refine lv_aload_n J.1 J.2.1 d_AS_placeNumber_45 rfl (lv_at hl 0 rfl) ?_
    refine jg J hJ hP 0 rfl rfl i_AS 11 (by decide) gf_AS_51 rfl d_AS_placeNumber_46 ?_
    refine lv_iload_n J.1 J.2.1 d_AS_placeNumber_49 rfl (lv_at hl 1 rfl) ?_
    replace h := g_ck h
    obtain ⟨k_4, h⟩ := h
    refine jsi J hJ hP hD hS 3 rfl k_4 d_AS_placeNumber_50 (WS' := [(s0, .inr (4, [.ref s1, .int shr, .int sft, .int sfl, .ref l0, .ref s2, .ref s3, .int slc, .ref s4, .ref s5, .ref s6, .int suc])), (s1, .inl (E.2.1 0, 1024, .inl (upd swd p1.toNatClampNeg lnu))), (s4, .inl (E.2.1 1, 1024, .inr (.inl (vp_updL sul suc.toNatClampNeg lwa)))), (s5, .inl (E.2.1 0, 1024, .inl (upd sua suc.toNatClampNeg p1))), (s6, .inl (E.2.1 0, 1024, .inl suL)), (l0, .inr (3, [.ref l9, .int lat, .int len, .long llb, .int lor, .int laa, .int lbb, .int lnu, .long lwa]))]) rfl ?_
    clear hP hD hS
    intro H locs hP hD hS
    refine lv_aload_n J.1 J.2.1 d_AS_placeNumber_51 rfl (lv_at hl 0 rfl) ?_
    refine jg J hJ hP 0 rfl rfl i_AS 10 (by decide) gf_AS_35 rfl d_AS_placeNumber_52 ?_
    refine lv_aload_n J.1 J.2.1 d_AS_placeNumber_55 rfl (lv_at hl 0 rfl) ?_
    refine jg J hJ hP 0 rfl rfl i_AS 11 (by decide) gf_AS_51 rfl d_AS_placeNumber_56 ?_
    refine lv_iload_n J.1 J.2.1 d_AS_placeNumber_59 rfl (lv_at hl 2 rfl) ?_
    replace h := g_ck h
    obtain ⟨k_5, h⟩ := h
    refine jsi J hJ hP hD hS 4 rfl k_5 d_AS_placeNumber_60 (WS' := [(s0, .inr (4, [.ref s1, .int shr, .int sft, .int sfl, .ref l0, .ref s2, .ref s3, .int slc, .ref s4, .ref s5, .ref s6, .int suc])), (s1, .inl (E.2.1 0, 1024, .inl (upd swd p1.toNatClampNeg lnu))), (s4, .inl (E.2.1 1, 1024, .inr (.inl (vp_updL sul suc.toNatClampNeg lwa)))), (s5, .inl (E.2.1 0, 1024, .inl (upd sua suc.toNatClampNeg p1))), (s6, .inl (E.2.1 0, 1024, .inl (upd suL suc.toNatClampNeg p2))), (l0, .inr (3, [.ref l9, .int lat, .int len, .long llb, .int lor, .int laa, .int lbb, .int lnu, .long lwa]))]) rfl ?_
    clear hP hD hS
    intro H locs hP hD hS
    refine lv_aload_n J.1 J.2.1 d_AS_placeNumber_61 rfl (lv_at hl 0 rfl) ?_
    refine lv_dup J.1 J.2.1 d_AS_placeNumber_62 rfl ?_
    refine jg J hJ hP 0 rfl rfl i_AS 11 (by decide) gf_AS_51 rfl d_AS_placeNumber_63 ?_
    refine lv_iconst (v := 1) J.1 J.2.1 d_AS_placeNumber_66 (by decide) ?_
    refine lv_iadd J.1 J.2.1 d_AS_placeNumber_67 ?_
    refine jp J hJ hP hD hS 0 rfl rfl i_AS t_AS t_AS_ok n_AS 11 (by decide) gf_AS_51 rfl rfl rfl (Nat.le_of_ble_eq_true rfl) d_AS_placeNumber_68 (WS' := [(s0, .inr (4, [.ref s1, .int shr, .int sft, .int sfl, .ref l0, .ref s2, .ref s3, .int slc, .ref s4, .ref s5, .ref s6, .int (suc + 1)])), (s1, .inl (E.2.1 0, 1024, .inl (upd swd p1.toNatClampNeg lnu))), (s4, .inl (E.2.1 1, 1024, .inr (.inl (vp_updL sul suc.toNatClampNeg lwa)))), (s5, .inl (E.2.1 0, 1024, .inl (upd sua suc.toNatClampNeg p1))), (s6, .inl (E.2.1 0, 1024, .inl (upd suL suc.toNatClampNeg p2))), (l0, .inr (3, [.ref l9, .int lat, .int len, .long llb, .int lor, .int laa, .int lbb, .int lnu, .long lwa]))]) rfl ?_
    clear hP hD hS
    intro H locs hP hD hS
    have h := Option.some.inj h
    have e_0 := (Prod.mk.inj h).1
    have h := (Prod.mk.inj h).2
    have e_1 := (Prod.mk.inj h).1
    have h := (Prod.mk.inj h).2
    have e_2 := (Prod.mk.inj h).1
    have h := (Prod.mk.inj h).2
    have e_3 := (Prod.mk.inj h).1
    have h := (Prod.mk.inj h).2
    rw [← e_0, ← e_1, ← e_2, ← e_3, ← h]
    exact jr_v J hS hP hD d_AS_placeNumber_71

theorem hd_AS_placeLine : y_AS_placeLine.cls ≠ "java/lang/invoke/MethodHandle" ∧ y_AS_placeLine.cls ≠ "java/lang/invoke/VarHandle" ∧ (parseMethodDescriptor y_AS_placeLine.desc).map (fun d => d.parameters.length) = some 1 := by decide +kernel
def b_AS_placeLine_51 (shr : Int32) (slc : Int32) (suc : Int32) (swd : Nat → Int32) (slb : Nat → Int64) (sla : Nat → Int32) (sul : Nat → Int64) (sua : Nat → Int32) (suL : Nat → Int32) (lor : Int32) (laa : Int32) (lbb : Int32) (lnu : Int32) (lwa : Int64) (x1 : Int32) : Option (Int32 × Int32 × Int32 × (Nat → Int32) × (Nat → Int64) × (Nat → Int32) × (Nat → Int64) × (Nat → Int32) × (Nat → Int32)) := ((f_AS_lineBehind shr lor lnu).bind fun r_1 => ((f_LI_isInstruction lor).bind fun r_2 => (if r_2 = (0 : Int32) then (if lor = (25 : Int32) then ((f_AS_placeNumber suc swd sul sua suL lnu lwa shr x1).bind fun (suc_6, swd_6, sul_6, sua_6, suL_6) => (some (r_1, slc, suc_6, swd_6, slb, sla, sul_6, sua_6, suL_6))) else ((f_AS_clearWords shr swd r_1).bind fun swd_5 => (some (r_1, slc, suc, swd_5, slb, sla, sul, sua, suL)))) else (if ck shr 1024 then ((f_AS_placeNumber suc (upd swd shr.toNatClampNeg (((lor * 64) + (laa * 8)) + lbb)) sul sua suL lnu lwa (shr + 1) x1).bind fun (suc_8, swd_8, sul_8, sua_8, suL_8) => (some (r_1, slc, suc_8, swd_8, slb, sla, sul_8, sua_8, suL_8))) else none))))
def f_AS_placeLine (shr : Int32) (slc : Int32) (suc : Int32) (swd : Nat → Int32) (slb : Nat → Int64) (sla : Nat → Int32) (sul : Nat → Int64) (sua : Nat → Int32) (suL : Nat → Int32) (llb : Int64) (lor : Int32) (laa : Int32) (lbb : Int32) (lnu : Int32) (lwa : Int64) (p1 : Int32) : Option (Int32 × Int32 × Int32 × (Nat → Int32) × (Nat → Int64) × (Nat → Int32) × (Nat → Int64) × (Nat → Int32) × (Nat → Int32)) := (if (lg_cmp llb 0) = (0 : Int32) then b_AS_placeLine_51 shr slc suc swd slb sla sul sua suL lor laa lbb lnu lwa p1 else (if ck slc 100 then (if ck slc 100 then b_AS_placeLine_51 shr (slc + 1) suc swd (vp_updL slb slc.toNatClampNeg llb) (upd sla slc.toNatClampNeg shr) sul sua suL lor laa lbb lnu lwa p1 else none) else none))
set_option maxHeartbeats 4000000 in
set_option maxRecDepth 100000 in
theorem kb_AS_placeLine_51 {p : Program} {l : Launch} {e : Env} {s : State} {m : MethodId} {below : List Frame} {meth : Method} {c : Code} {A : Nat → Prop} {E : jz_E} {l0 s0 s1 s2 s3 s4 s5 s6 : Nat} {p1 : Int32} {o_shr : Int32} {o_slc : Int32} {o_suc : Int32} {o_swd : Nat → Int32} {o_slb : Nat → Int64} {o_sla : Nat → Int32} {o_sul : Nat → Int64} {o_sua : Nat → Int32} {o_suL : Nat → Int32} (J : JC p s m ([.ref s0, .int p1] : List Value).toArray meth c c_AS_placeLine 3 none y_AS_placeLine.cls) (hJ : jE E s) (hA : ∀ q : Nat, s.heap.size ≤ q → A q) (hZ : jz_ok E A s s.heap) : ∀ (shr : Int32) (sft : Int32) (sfl : Int32) (slc : Int32) (suc : Int32) (swd : Nat → Int32) (slb : Nat → Int64) (sla : Nat → Int32) (sul : Nat → Int64) (sua : Nat → Int32) (suL : Nat → Int32) (l9 : Nat) (lat : Int32) (len : Int32) (llb : Int64) (lor : Int32) (laa : Int32) (lbb : Int32) (lnu : Int32) (lwa : Int64) (x1 : Int32) (H : Heap) (locs : List Loc) (ls : Array Slot), b_AS_placeLine_51 shr slc suc swd slb sla sul sua suL lor laa lbb lnu lwa x1 = some (o_shr, o_slc, o_suc, o_swd, o_slb, o_sla, o_sul, o_sua, o_suL) → va_P E.1 classes [(s0, .inr (4, [.ref s1, .int shr, .int sft, .int sfl, .ref l0, .ref s2, .ref s3, .int slc, .ref s4, .ref s5, .ref s6, .int suc])), (s1, .inl (E.2.1 0, 1024, .inl swd)), (s2, .inl (E.2.1 1, 100, .inr (.inl slb))), (s3, .inl (E.2.1 0, 100, .inl sla)), (s4, .inl (E.2.1 1, 1024, .inr (.inl sul))), (s5, .inl (E.2.1 0, 1024, .inl sua)), (s6, .inl (E.2.1 0, 1024, .inl suL)), (l0, .inr (3, [.ref l9, .int lat, .int len, .long llb, .int lor, .int laa, .int lbb, .int lnu, .long lwa]))] H → va_D A [(s0, .inr (4, [.ref s1, .int shr, .int sft, .int sfl, .ref l0, .ref s2, .ref s3, .int slc, .ref s4, .ref s5, .ref s6, .int suc])), (s1, .inl (E.2.1 0, 1024, .inl swd)), (s2, .inl (E.2.1 1, 100, .inr (.inl slb))), (s3, .inl (E.2.1 0, 100, .inl sla)), (s4, .inl (E.2.1 1, 1024, .inr (.inl sul))), (s5, .inl (E.2.1 0, 1024, .inl sua)), (s6, .inl (E.2.1 0, 1024, .inl suL)), (l0, .inr (3, [.ref l9, .int lat, .int len, .long llb, .int lor, .int laa, .int lbb, .int lnu, .long lwa]))] → va_S A s.heap H locs → lv_has ls 3 [(0, .ref s0), (1, .int x1)] → W p l e ({ frames := 1, cells := 0, slots := 0, locals := 22 }) s m ([.ref s0, .int p1] : List Value).toArray below meth c H locs 0 0 (MQ below (va_Qv (fun (u : va_W) => u = [(s0, .inr (4, [.ref s1, .int o_shr, .int sft, .int sfl, .ref l0, .ref s2, .ref s3, .int o_slc, .ref s4, .ref s5, .ref s6, .int o_suc])), (s1, .inl (E.2.1 0, 1024, .inl o_swd)), (s2, .inl (E.2.1 1, 100, .inr (.inl o_slb))), (s3, .inl (E.2.1 0, 100, .inl o_sla)), (s4, .inl (E.2.1 1, 1024, .inr (.inl o_sul))), (s5, .inl (E.2.1 0, 1024, .inl o_sua)), (s6, .inl (E.2.1 0, 1024, .inl o_suL)), (l0, .inr (3, [.ref l9, .int lat, .int len, .long llb, .int lor, .int laa, .int lbb, .int lnu, .long lwa]))]) (BW E A) A) ([.ref s0, .int p1] : List Value).toArray s 0 0 A) (F0 m 51 ls []) := by
  intro shr sft sfl slc suc swd slb sla sul sua suL l9 lat len llb lor laa lbb lnu lwa x1 H locs ls h hP hD hS hl
  rw [b_AS_placeLine_51] at h
  refine lv_aload_n J.1 J.2.1 d_AS_placeLine_51 rfl (lv_at hl 0 rfl) ?_
  replace h := g_bd h
  obtain ⟨r_1, q_1, h⟩ := h
  have hq := ct_AS_lineBehind l E l0 s0 s1 s2 s3 s4 s5 s6 H.size shr sft sfl slc suc l9 lat len llb lor laa lbb lnu lwa r_1 q_1
  have hr := jrunV (p := p) (e := e) (below := below) (R := ({ frames := 1, cells := 0, slots := 0, locals := 22 })) (cells := 0) (slots := 0) (As := []) (rest := []) J hJ hA hZ hP hD hS hq [0, 7] rfl (by decide) gl_AS_91 gi_AS_lineBehind gsel_AS_lineBehind gini_AS gc_AS_lineBehind hd_AS_lineBehind ⟨rfl, rfl, Nat.le_of_ble_eq_true rfl, Nat.le_of_ble_eq_true rfl⟩ rfl rfl hl.1 rfl rfl (Nat.le_of_ble_eq_true rfl) d_AS_placeLine_52 ⟨Nat.zero_le _, Nat.zero_le _⟩
  clear hq
  refine jk_i hr hA hP hD hS [0, 7] [1, 2, 3, 4, 5, 6] (WR := [(s1, .inl (E.2.1 0, 1024, .inl swd)), (s2, .inl (E.2.1 1, 100, .inr (.inl slb))), (s3, .inl (E.2.1 0, 100, .inl sla)), (s4, .inl (E.2.1 1, 1024, .inr (.inl sul))), (s5, .inl (E.2.1 0, 1024, .inl sua)), (s6, .inl (E.2.1 0, 1024, .inl suL))]) rfl rfl (by decide) (by decide) [6, 0, 1, 2, 3, 4, 5, 7] (WF := [(s0, .inr (4, [.ref s1, .int shr, .int sft, .int sfl, .ref l0, .ref s2, .ref s3, .int slc, .ref s4, .ref s5, .ref s6, .int suc])), (s1, .inl (E.2.1 0, 1024, .inl swd)), (s2, .inl (E.2.1 1, 100, .inr (.inl slb))), (s3, .inl (E.2.1 0, 100, .inl sla)), (s4, .inl (E.2.1 1, 1024, .inr (.inl sul))), (s5, .inl (E.2.1 0, 1024, .inl sua)), (s6, .inl (E.2.1 0, 1024, .inl suL)), (l0, .inr (3, [.ref l9, .int lat, .int len, .long llb, .int lor, .int laa, .int lbb, .int lnu, .long lwa]))]) rfl (by decide) ?_
  clear hP hD hS
  intro H locs hP hD hS
  clear hr
  refine lv_istore_n (lv' := [(2, .int r_1), (0, .ref s0), (1, .int x1)]) J.1 J.2.1 d_AS_placeLine_55 rfl hl (by decide) rfl ?_
  clear hl
  intro ls hl
  refine lv_aload_n J.1 J.2.1 d_AS_placeLine_56 rfl (lv_at hl 1 rfl) ?_
  refine jg J hJ hP 0 rfl rfl i_AS 4 (by decide) gf_AS_18 rfl d_AS_placeLine_57 ?_
  replace h := g_bd h
  obtain ⟨r_2, q_2, h⟩ := h
  have hq := ct_LI_isInstruction l E l0 H.size l9 lat len llb lor laa lbb lnu lwa r_2 q_2
  have hr := jrunV (p := p) (e := e) (below := below) (R := ({ frames := 1, cells := 0, slots := 0, locals := 22 })) (cells := 0) (slots := 0) (As := []) (rest := []) J hJ hA hZ hP hD hS hq [7] rfl (by decide) gl_AS_95 gi_LI_isInstruction gsel_LI_isInstruction gini_LI gc_LI_isInstruction hd_LI_isInstruction ⟨rfl, rfl, Nat.le_of_ble_eq_true rfl, Nat.le_of_ble_eq_true rfl⟩ rfl rfl hl.1 rfl rfl (Nat.le_of_ble_eq_true rfl) d_AS_placeLine_60 ⟨Nat.zero_le _, Nat.zero_le _⟩
  clear hq
  refine jk_i hr hA hP hD hS [7] [0, 1, 2, 3, 4, 5, 6] (WR := [(s0, .inr (4, [.ref s1, .int shr, .int sft, .int sfl, .ref l0, .ref s2, .ref s3, .int slc, .ref s4, .ref s5, .ref s6, .int suc])), (s1, .inl (E.2.1 0, 1024, .inl swd)), (s2, .inl (E.2.1 1, 100, .inr (.inl slb))), (s3, .inl (E.2.1 0, 100, .inl sla)), (s4, .inl (E.2.1 1, 1024, .inr (.inl sul))), (s5, .inl (E.2.1 0, 1024, .inl sua)), (s6, .inl (E.2.1 0, 1024, .inl suL))]) rfl rfl (by decide) (by decide) [0, 1, 2, 3, 4, 5, 6, 7] (WF := [(s0, .inr (4, [.ref s1, .int shr, .int sft, .int sfl, .ref l0, .ref s2, .ref s3, .int slc, .ref s4, .ref s5, .ref s6, .int suc])), (s1, .inl (E.2.1 0, 1024, .inl swd)), (s2, .inl (E.2.1 1, 100, .inr (.inl slb))), (s3, .inl (E.2.1 0, 100, .inl sla)), (s4, .inl (E.2.1 1, 1024, .inr (.inl sul))), (s5, .inl (E.2.1 0, 1024, .inl sua)), (s6, .inl (E.2.1 0, 1024, .inl suL)), (l0, .inr (3, [.ref l9, .int lat, .int len, .long llb, .int lor, .int laa, .int lbb, .int lnu, .long lwa]))]) rfl (by decide) ?_
  clear hP hD hS
  intro H locs hP hD hS
  clear hr
  refine lv_if_eq (tgt := 118) J.1 J.2.1 d_AS_placeLine_63 (by decide) (fun c_3 => ?_) (fun c_3 => ?_)
  · replace h := g_t c_3 h
    refine lv_aload_n J.1 J.2.1 d_AS_placeLine_118 rfl (lv_at hl 1 rfl) ?_
    refine jg J hJ hP 0 rfl rfl i_AS 4 (by decide) gf_AS_18 rfl d_AS_placeLine_119 ?_
    refine jgN J hJ hP 7 rfl rfl i_LI 4 (by decide) gn_AS_77 rfl d_AS_placeLine_122 ?_
    refine lv_bipush (v := 25) J.1 J.2.1 d_AS_placeLine_125 (by decide) ?_
    refine lv_icmp_ne (tgt := 142) J.1 J.2.1 d_AS_placeLine_127 (by decide) (fun c_4 => ?_) (fun c_4 => ?_)
    · replace h := g_f c_4 h
      refine lv_aload_n J.1 J.2.1 d_AS_placeLine_142 rfl (lv_at hl 1 rfl) ?_
      refine lv_iload_n J.1 J.2.1 d_AS_placeLine_143 rfl (lv_at hl 0 rfl) ?_
      replace h := g_bd h
      obtain ⟨swd_5, q_5, h⟩ := h
      have hq := ct_AS_clearWords l E l0 s0 s1 s2 s3 s4 s5 s6 H.size shr sft sfl slc suc swd r_1 swd_5 q_5
      have hr := jrunV (p := p) (e := e) (below := below) (R := ({ frames := 1, cells := 0, slots := 0, locals := 22 })) (cells := 0) (slots := 0) (As := [.int r_1]) (rest := []) J hJ hA hZ hP hD hS hq [0, 1] rfl (by decide) gl_AS_108 gi_AS_clearWords gsel_AS_clearWords gini_AS gc_AS_clearWords hd_AS_clearWords ⟨rfl, rfl, Nat.le_of_ble_eq_true rfl, Nat.le_of_ble_eq_true rfl⟩ rfl rfl hl.1 rfl rfl (Nat.le_of_ble_eq_true rfl) d_AS_placeLine_144 ⟨Nat.zero_le _, Nat.zero_le _⟩
      clear hq
      refine jk_v hr hA hP hD hS [0, 1] [2, 3, 4, 5, 6, 7] (WR := [(s2, .inl (E.2.1 1, 100, .inr (.inl slb))), (s3, .inl (E.2.1 0, 100, .inl sla)), (s4, .inl (E.2.1 1, 1024, .inr (.inl sul))), (s5, .inl (E.2.1 0, 1024, .inl sua)), (s6, .inl (E.2.1 0, 1024, .inl suL)), (l0, .inr (3, [.ref l9, .int lat, .int len, .long llb, .int lor, .int laa, .int lbb, .int lnu, .long lwa]))]) rfl rfl (by decide) (by decide) [6, 7, 0, 1, 2, 3, 4, 5] (WF := [(s0, .inr (4, [.ref s1, .int shr, .int sft, .int sfl, .ref l0, .ref s2, .ref s3, .int slc, .ref s4, .ref s5, .ref s6, .int suc])), (s1, .inl (E.2.1 0, 1024, .inl swd_5)), (s2, .inl (E.2.1 1, 100, .inr (.inl slb))), (s3, .inl (E.2.1 0, 100, .inl sla)), (s4, .inl (E.2.1 1, 1024, .inr (.inl sul))), (s5, .inl (E.2.1 0, 1024, .inl sua)), (s6, .inl (E.2.1 0, 1024, .inl suL)), (l0, .inr (3, [.ref l9, .int lat, .int len, .long llb, .int lor, .int laa, .int lbb, .int lnu, .long lwa]))]) rfl (by decide) ?_
      clear hP hD hS
      intro H locs hP hD hS
      clear hr
      refine lv_aload_n J.1 J.2.1 d_AS_placeLine_147 rfl (lv_at hl 1 rfl) ?_
      refine lv_iload_n J.1 J.2.1 d_AS_placeLine_148 rfl (lv_at hl 0 rfl) ?_
      refine jp J hJ hP hD hS 0 rfl rfl i_AS t_AS t_AS_ok n_AS 1 (by decide) gf_AS_38 rfl rfl rfl (Nat.le_of_ble_eq_true rfl) d_AS_placeLine_149 (WS' := [(s0, .inr (4, [.ref s1, .int r_1, .int sft, .int sfl, .ref l0, .ref s2, .ref s3, .int slc, .ref s4, .ref s5, .ref s6, .int suc])), (s1, .inl (E.2.1 0, 1024, .inl swd_5)), (s2, .inl (E.2.1 1, 100, .inr (.inl slb))), (s3, .inl (E.2.1 0, 100, .inl sla)), (s4, .inl (E.2.1 1, 1024, .inr (.inl sul))), (s5, .inl (E.2.1 0, 1024, .inl sua)), (s6, .inl (E.2.1 0, 1024, .inl suL)), (l0, .inr (3, [.ref l9, .int lat, .int len, .long llb, .int lor, .int laa, .int lbb, .int lnu, .long lwa]))]) rfl ?_
      clear hP hD hS
      intro H locs hP hD hS
      have h := Option.some.inj h
      have e_0 := (Prod.mk.inj h).1
      have h := (Prod.mk.inj h).2
      have e_1 := (Prod.mk.inj h).1
      have h := (Prod.mk.inj h).2
      have e_2 := (Prod.mk.inj h).1
      have h := (Prod.mk.inj h).2
      have e_3 := (Prod.mk.inj h).1
      have h := (Prod.mk.inj h).2
      have e_4 := (Prod.mk.inj h).1
      have h := (Prod.mk.inj h).2
      have e_5 := (Prod.mk.inj h).1
      have h := (Prod.mk.inj h).2
      have e_6 := (Prod.mk.inj h).1
      have h := (Prod.mk.inj h).2
      have e_7 := (Prod.mk.inj h).1
      have h := (Prod.mk.inj h).2
      rw [← e_0, ← e_1, ← e_2, ← e_3, ← e_4, ← e_5, ← e_6, ← e_7, ← h]
      exact jr_v J hS hP hD d_AS_placeLine_152
    · replace h := g_t c_4 h
      refine lv_aload_n J.1 J.2.1 d_AS_placeLine_130 rfl (lv_at hl 1 rfl) ?_
      refine lv_aload_n J.1 J.2.1 d_AS_placeLine_131 rfl (lv_at hl 1 rfl) ?_
      refine jg J hJ hP 0 rfl rfl i_AS 1 (by decide) gf_AS_38 rfl d_AS_placeLine_132 ?_
      refine lv_iload_n J.1 J.2.1 d_AS_placeLine_135 rfl (lv_at hl 2 rfl) ?_
      replace h := g_bd h
      obtain ⟨⟨suc_6, swd_6, sul_6, sua_6, suL_6⟩, q_6, h⟩ := h
      try dsimp only at h
      have hq := ct_AS_placeNumber l E l0 s0 s1 s2 s3 s4 s5 s6 H.size shr sft sfl slc suc swd sul sua suL l9 lat len llb lor laa lbb lnu lwa shr x1 suc_6 swd_6 sul_6 sua_6 suL_6 q_6
      have hr := jrunV (p := p) (e := e) (below := below) (R := ({ frames := 1, cells := 0, slots := 0, locals := 22 })) (cells := 0) (slots := 0) (As := [.int shr, .int x1]) (rest := []) J hJ hA hZ hP hD hS hq [0, 1, 4, 5, 6, 7] rfl (by decide) gl_AS_105 gi_AS_placeNumber gsel_AS_placeNumber gini_AS gc_AS_placeNumber hd_AS_placeNumber ⟨rfl, rfl, Nat.le_of_ble_eq_true rfl, Nat.le_of_ble_eq_true rfl⟩ rfl rfl hl.1 rfl rfl (Nat.le_of_ble_eq_true rfl) d_AS_placeLine_136 ⟨Nat.zero_le _, Nat.zero_le _⟩
      clear hq
      refine jk_v hr hA hP hD hS [0, 1, 4, 5, 6, 7] [2, 3] (WR := [(s2, .inl (E.2.1 1, 100, .inr (.inl slb))), (s3, .inl (E.2.1 0, 100, .inl sla))]) rfl rfl (by decide) (by decide) [2, 3, 0, 1, 4, 5, 6, 7] (WF := [(s0, .inr (4, [.ref s1, .int shr, .int sft, .int sfl, .ref l0, .ref s2, .ref s3, .int slc, .ref s4, .ref s5, .ref s6, .int suc_6])), (s1, .inl (E.2.1 0, 1024, .inl swd_6)), (s2, .inl (E.2.1 1, 100, .inr (.inl slb))), (s3, .inl (E.2.1 0, 100, .inl sla)), (s4, .inl (E.2.1 1, 1024, .inr (.inl sul_6))), (s5, .inl (E.2.1 0, 1024, .inl sua_6)), (s6, .inl (E.2.1 0, 1024, .inl suL_6)), (l0, .inr (3, [.ref l9, .int lat, .int len, .long llb, .int lor, .int laa, .int lbb, .int lnu, .long lwa]))]) rfl (by decide) ?_
      clear hP hD hS
      intro H locs hP hD hS
      clear hr
      refine lv_goto (tgt := 147) J.1 J.2.1 d_AS_placeLine_139 (by decide) ?_
      refine lv_aload_n J.1 J.2.1 d_AS_placeLine_147 rfl (lv_at hl 1 rfl) ?_
      refine lv_iload_n J.1 J.2.1 d_AS_placeLine_148 rfl (lv_at hl 0 rfl) ?_
      refine jp J hJ hP hD hS 0 rfl rfl i_AS t_AS t_AS_ok n_AS 1 (by decide) gf_AS_38 rfl rfl rfl (Nat.le_of_ble_eq_true rfl) d_AS_placeLine_149 (WS' := [(s0, .inr (4, [.ref s1, .int r_1, .int sft, .int sfl, .ref l0, .ref s2, .ref s3, .int slc, .ref s4, .ref s5, .ref s6, .int suc_6])), (s1, .inl (E.2.1 0, 1024, .inl swd_6)), (s2, .inl (E.2.1 1, 100, .inr (.inl slb))), (s3, .inl (E.2.1 0, 100, .inl sla)), (s4, .inl (E.2.1 1, 1024, .inr (.inl sul_6))), (s5, .inl (E.2.1 0, 1024, .inl sua_6)), (s6, .inl (E.2.1 0, 1024, .inl suL_6)), (l0, .inr (3, [.ref l9, .int lat, .int len, .long llb, .int lor, .int laa, .int lbb, .int lnu, .long lwa]))]) rfl ?_
      clear hP hD hS
      intro H locs hP hD hS
      have h := Option.some.inj h
      have e_0 := (Prod.mk.inj h).1
      have h := (Prod.mk.inj h).2
      have e_1 := (Prod.mk.inj h).1
      have h := (Prod.mk.inj h).2
      have e_2 := (Prod.mk.inj h).1
      have h := (Prod.mk.inj h).2
      have e_3 := (Prod.mk.inj h).1
      have h := (Prod.mk.inj h).2
      have e_4 := (Prod.mk.inj h).1
      have h := (Prod.mk.inj h).2
      have e_5 := (Prod.mk.inj h).1
      have h := (Prod.mk.inj h).2
      have e_6 := (Prod.mk.inj h).1
      have h := (Prod.mk.inj h).2
      have e_7 := (Prod.mk.inj h).1
      have h := (Prod.mk.inj h).2
      rw [← e_0, ← e_1, ← e_2, ← e_3, ← e_4, ← e_5, ← e_6, ← e_7, ← h]
      exact jr_v J hS hP hD d_AS_placeLine_152
  · replace h := g_f c_3 h
    refine lv_aload_n J.1 J.2.1 d_AS_placeLine_66 rfl (lv_at hl 1 rfl) ?_
    refine jg J hJ hP 0 rfl rfl i_AS 0 (by decide) gf_AS_9 rfl d_AS_placeLine_67 ?_
    refine lv_aload_n J.1 J.2.1 d_AS_placeLine_70 rfl (lv_at hl 1 rfl) ?_
    refine jg J hJ hP 0 rfl rfl i_AS 1 (by decide) gf_AS_38 rfl d_AS_placeLine_71 ?_
    refine lv_aload_n J.1 J.2.1 d_AS_placeLine_74 rfl (lv_at hl 1 rfl) ?_
    refine jg J hJ hP 0 rfl rfl i_AS 4 (by decide) gf_AS_18 rfl d_AS_placeLine_75 ?_
    refine jgN J hJ hP 7 rfl rfl i_LI 4 (by decide) gn_AS_77 rfl d_AS_placeLine_78 ?_
    refine lv_bipush (v := 64) J.1 J.2.1 d_AS_placeLine_81 (by decide) ?_
    refine lv_imul J.1 J.2.1 d_AS_placeLine_83 ?_
    refine lv_aload_n J.1 J.2.1 d_AS_placeLine_84 rfl (lv_at hl 1 rfl) ?_
    refine jg J hJ hP 0 rfl rfl i_AS 4 (by decide) gf_AS_18 rfl d_AS_placeLine_85 ?_
    refine jgN J hJ hP 7 rfl rfl i_LI 5 (by decide) gn_AS_99 rfl d_AS_placeLine_88 ?_
    refine lv_bipush (v := 8) J.1 J.2.1 d_AS_placeLine_91 (by decide) ?_
    refine lv_imul J.1 J.2.1 d_AS_placeLine_93 ?_
    refine lv_iadd J.1 J.2.1 d_AS_placeLine_94 ?_
    refine lv_aload_n J.1 J.2.1 d_AS_placeLine_95 rfl (lv_at hl 1 rfl) ?_
    refine jg J hJ hP 0 rfl rfl i_AS 4 (by decide) gf_AS_18 rfl d_AS_placeLine_96 ?_
    refine jgN J hJ hP 7 rfl rfl i_LI 6 (by decide) gn_AS_102 rfl d_AS_placeLine_99 ?_
    refine lv_iadd J.1 J.2.1 d_AS_placeLine_102 ?_
    replace h := g_ck h
    obtain ⟨k_7, h⟩ := h
    refine jsi J hJ hP hD hS 1 rfl k_7 d_AS_placeLine_103 (WS' := [(s0, .inr (4, [.ref s1, .int shr, .int sft, .int sfl, .ref l0, .ref s2, .ref s3, .int slc, .ref s4, .ref s5, .ref s6, .int suc])), (s1, .inl (E.2.1 0, 1024, .inl (upd swd shr.toNatClampNeg (((lor * 64) + (laa * 8)) + lbb)))), (s2, .inl (E.2.1 1, 100, .inr (.inl slb))), (s3, .inl (E.2.1 0, 100, .inl sla)), (s4, .inl (E.2.1 1, 1024, .inr (.inl sul))), (s5, .inl (E.2.1 0, 1024, .inl sua)), (s6, .inl (E.2.1 0, 1024, .inl suL)), (l0, .inr (3, [.ref l9, .int lat, .int len, .long llb, .int lor, .int laa, .int lbb, .int lnu, .long lwa]))]) rfl ?_
    clear hP hD hS
    intro H locs hP hD hS
    refine lv_aload_n J.1 J.2.1 d_AS_placeLine_104 rfl (lv_at hl 1 rfl) ?_
    refine lv_aload_n J.1 J.2.1 d_AS_placeLine_105 rfl (lv_at hl 1 rfl) ?_
    refine jg J hJ hP 0 rfl rfl i_AS 1 (by decide) gf_AS_38 rfl d_AS_placeLine_106 ?_
    refine lv_iconst (v := 1) J.1 J.2.1 d_AS_placeLine_109 (by decide) ?_
    refine lv_iadd J.1 J.2.1 d_AS_placeLine_110 ?_
    refine lv_iload_n J.1 J.2.1 d_AS_placeLine_111 rfl (lv_at hl 2 rfl) ?_
    replace h := g_bd h
    obtain ⟨⟨suc_8, swd_8, sul_8, sua_8, suL_8⟩, q_8, h⟩ := h
    try dsimp only at h
    have hq := ct_AS_placeNumber l E l0 s0 s1 s2 s3 s4 s5 s6 H.size shr sft sfl slc suc (upd swd shr.toNatClampNeg (((lor * 64) + (laa * 8)) + lbb)) sul sua suL l9 lat len llb lor laa lbb lnu lwa (shr + 1) x1 suc_8 swd_8 sul_8 sua_8 suL_8 q_8
    have hr := jrunV (p := p) (e := e) (below := below) (R := ({ frames := 1, cells := 0, slots := 0, locals := 22 })) (cells := 0) (slots := 0) (As := [.int (shr + 1), .int x1]) (rest := []) J hJ hA hZ hP hD hS hq [0, 1, 4, 5, 6, 7] rfl (by decide) gl_AS_105 gi_AS_placeNumber gsel_AS_placeNumber gini_AS gc_AS_placeNumber hd_AS_placeNumber ⟨rfl, rfl, Nat.le_of_ble_eq_true rfl, Nat.le_of_ble_eq_true rfl⟩ rfl rfl hl.1 rfl rfl (Nat.le_of_ble_eq_true rfl) d_AS_placeLine_112 ⟨Nat.zero_le _, Nat.zero_le _⟩
    clear hq
    refine jk_v hr hA hP hD hS [0, 1, 4, 5, 6, 7] [2, 3] (WR := [(s2, .inl (E.2.1 1, 100, .inr (.inl slb))), (s3, .inl (E.2.1 0, 100, .inl sla))]) rfl rfl (by decide) (by decide) [2, 3, 0, 1, 4, 5, 6, 7] (WF := [(s0, .inr (4, [.ref s1, .int shr, .int sft, .int sfl, .ref l0, .ref s2, .ref s3, .int slc, .ref s4, .ref s5, .ref s6, .int suc_8])), (s1, .inl (E.2.1 0, 1024, .inl swd_8)), (s2, .inl (E.2.1 1, 100, .inr (.inl slb))), (s3, .inl (E.2.1 0, 100, .inl sla)), (s4, .inl (E.2.1 1, 1024, .inr (.inl sul_8))), (s5, .inl (E.2.1 0, 1024, .inl sua_8)), (s6, .inl (E.2.1 0, 1024, .inl suL_8)), (l0, .inr (3, [.ref l9, .int lat, .int len, .long llb, .int lor, .int laa, .int lbb, .int lnu, .long lwa]))]) rfl (by decide) ?_
    clear hP hD hS
    intro H locs hP hD hS
    clear hr
    refine lv_goto (tgt := 147) J.1 J.2.1 d_AS_placeLine_115 (by decide) ?_
    refine lv_aload_n J.1 J.2.1 d_AS_placeLine_147 rfl (lv_at hl 1 rfl) ?_
    refine lv_iload_n J.1 J.2.1 d_AS_placeLine_148 rfl (lv_at hl 0 rfl) ?_
    refine jp J hJ hP hD hS 0 rfl rfl i_AS t_AS t_AS_ok n_AS 1 (by decide) gf_AS_38 rfl rfl rfl (Nat.le_of_ble_eq_true rfl) d_AS_placeLine_149 (WS' := [(s0, .inr (4, [.ref s1, .int r_1, .int sft, .int sfl, .ref l0, .ref s2, .ref s3, .int slc, .ref s4, .ref s5, .ref s6, .int suc_8])), (s1, .inl (E.2.1 0, 1024, .inl swd_8)), (s2, .inl (E.2.1 1, 100, .inr (.inl slb))), (s3, .inl (E.2.1 0, 100, .inl sla)), (s4, .inl (E.2.1 1, 1024, .inr (.inl sul_8))), (s5, .inl (E.2.1 0, 1024, .inl sua_8)), (s6, .inl (E.2.1 0, 1024, .inl suL_8)), (l0, .inr (3, [.ref l9, .int lat, .int len, .long llb, .int lor, .int laa, .int lbb, .int lnu, .long lwa]))]) rfl ?_
    clear hP hD hS
    intro H locs hP hD hS
    have h := Option.some.inj h
    have e_0 := (Prod.mk.inj h).1
    have h := (Prod.mk.inj h).2
    have e_1 := (Prod.mk.inj h).1
    have h := (Prod.mk.inj h).2
    have e_2 := (Prod.mk.inj h).1
    have h := (Prod.mk.inj h).2
    have e_3 := (Prod.mk.inj h).1
    have h := (Prod.mk.inj h).2
    have e_4 := (Prod.mk.inj h).1
    have h := (Prod.mk.inj h).2
    have e_5 := (Prod.mk.inj h).1
    have h := (Prod.mk.inj h).2
    have e_6 := (Prod.mk.inj h).1
    have h := (Prod.mk.inj h).2
    have e_7 := (Prod.mk.inj h).1
    have h := (Prod.mk.inj h).2
    rw [← e_0, ← e_1, ← e_2, ← e_3, ← e_4, ← e_5, ← e_6, ← e_7, ← h]
    exact jr_v J hS hP hD d_AS_placeLine_152
set_option maxHeartbeats 4000000 in
set_option maxRecDepth 100000 in
theorem ct_AS_placeLine (l : Launch) (E : jz_E) (l0 s0 s1 s2 s3 s4 s5 s6 : Nat) (sz : Nat) (shr : Int32) (sft : Int32) (sfl : Int32) (slc : Int32) (suc : Int32) (swd : Nat → Int32) (slb : Nat → Int64) (sla : Nat → Int32) (sul : Nat → Int64) (sua : Nat → Int32) (suL : Nat → Int32) (l9 : Nat) (lat : Int32) (len : Int32) (llb : Int64) (lor : Int32) (laa : Int32) (lbb : Int32) (lnu : Int32) (lwa : Int64) (p1 : Int32) (o_shr : Int32) (o_slc : Int32) (o_suc : Int32) (o_swd : Nat → Int32) (o_slb : Nat → Int64) (o_sla : Nat → Int32) (o_sul : Nat → Int64) (o_sua : Nat → Int32) (o_suL : Nat → Int32)  (h : f_AS_placeLine shr slc suc swd slb sla sul sua suL llb lor laa lbb lnu lwa p1 = some (o_shr, o_slc, o_suc, o_swd, o_slb, o_sla, o_sul, o_sua, o_suL)) : CTv l E y_AS_placeLine c_AS_placeLine 3 none ({ frames := 1, cells := 0, slots := 0, locals := 22 }) [.ref s0, .int p1] [(s0, .inr (4, [.ref s1, .int shr, .int sft, .int sfl, .ref l0, .ref s2, .ref s3, .int slc, .ref s4, .ref s5, .ref s6, .int suc])), (s1, .inl (E.2.1 0, 1024, .inl swd)), (s2, .inl (E.2.1 1, 100, .inr (.inl slb))), (s3, .inl (E.2.1 0, 100, .inl sla)), (s4, .inl (E.2.1 1, 1024, .inr (.inl sul))), (s5, .inl (E.2.1 0, 1024, .inl sua)), (s6, .inl (E.2.1 0, 1024, .inl suL)), (l0, .inr (3, [.ref l9, .int lat, .int len, .long llb, .int lor, .int laa, .int lbb, .int lnu, .long lwa]))] sz [(s0, .inr (4, [.ref s1, .int o_shr, .int sft, .int sfl, .ref l0, .ref s2, .ref s3, .int o_slc, .ref s4, .ref s5, .ref s6, .int o_suc])), (s1, .inl (E.2.1 0, 1024, .inl o_swd)), (s2, .inl (E.2.1 1, 100, .inr (.inl o_slb))), (s3, .inl (E.2.1 0, 100, .inl o_sla)), (s4, .inl (E.2.1 1, 1024, .inr (.inl o_sul))), (s5, .inl (E.2.1 0, 1024, .inl o_sua)), (s6, .inl (E.2.1 0, 1024, .inl o_suL)), (l0, .inr (3, [.ref l9, .int lat, .int len, .long llb, .int lor, .int laa, .int lbb, .int lnu, .long lwa]))] := by
  refine jw (by decide +kernel) (Nat.le_of_ble_eq_true rfl) ?_
  intro p e s m below meth c A ls J hJ hAe hsz hA hZ hP hD hl
  rw [← hAe]
  have hS : va_S A s.heap s.heap [] := va_S.rf
  have hl : lv_has ls 3 [(0, .ref s0), (1, .int p1)] := hl
  unfold f_AS_placeLine at h
  refine lv_aload_n J.1 J.2.1 d_AS_placeLine_0 rfl (lv_at hl 0 rfl) ?_
  refine jg J hJ hP 0 rfl rfl i_AS 4 (by decide) gf_AS_18 rfl d_AS_placeLine_1 ?_
  refine jgN J hJ hP 7 rfl rfl i_LI 3 (by decide) gn_AS_83 rfl d_AS_placeLine_4 ?_
  refine lv_lconst (v := 0) J.1 J.2.1 d_AS_placeLine_7 (by decide) ?_
  refine W.lcmp J.1 J.2.1 d_AS_placeLine_8 ?_
  refine lv_if_eq (tgt := 51) J.1 J.2.1 d_AS_placeLine_9 (by decide) (fun c_9 => ?_) (fun c_9 => ?_)
  · replace h := g_t c_9 h
    exact kb_AS_placeLine_51 J hJ hA hZ _ _ _ _ _ _ _ _ _ _ _ _ _ _ _ _ _ _ _ _ _ _ _ _ h hP hD hS (lv_sub hl [0, 1] rfl)
  · replace h := g_f c_9 h
    refine lv_aload_n J.1 J.2.1 d_AS_placeLine_12 rfl (lv_at hl 0 rfl) ?_
    refine jg J hJ hP 0 rfl rfl i_AS 5 (by decide) gf_AS_22 rfl d_AS_placeLine_13 ?_
    refine lv_aload_n J.1 J.2.1 d_AS_placeLine_16 rfl (lv_at hl 0 rfl) ?_
    refine jg J hJ hP 0 rfl rfl i_AS 7 (by decide) gf_AS_48 rfl d_AS_placeLine_17 ?_
    refine lv_aload_n J.1 J.2.1 d_AS_placeLine_20 rfl (lv_at hl 0 rfl) ?_
    refine jg J hJ hP 0 rfl rfl i_AS 4 (by decide) gf_AS_18 rfl d_AS_placeLine_21 ?_
    refine jgN J hJ hP 7 rfl rfl i_LI 3 (by decide) gn_AS_83 rfl d_AS_placeLine_24 ?_
    replace h := g_ck h
    obtain ⟨k_10, h⟩ := h
    refine va_last J.1 J.2.1 hJ.1 hP hD hS 2 1 rfl rfl k_10 d_AS_placeLine_27 ?_
    clear hP hD hS
    intro H locs hP hD hS
    have hP : va_P E.1 classes [(s0, .inr (4, [.ref s1, .int shr, .int sft, .int sfl, .ref l0, .ref s2, .ref s3, .int slc, .ref s4, .ref s5, .ref s6, .int suc])), (s1, .inl (E.2.1 0, 1024, .inl swd)), (s2, .inl (E.2.1 1, 100, .inr (.inl (vp_updL slb slc.toNatClampNeg llb)))), (s3, .inl (E.2.1 0, 100, .inl sla)), (s4, .inl (E.2.1 1, 1024, .inr (.inl sul))), (s5, .inl (E.2.1 0, 1024, .inl sua)), (s6, .inl (E.2.1 0, 1024, .inl suL)), (l0, .inr (3, [.ref l9, .int lat, .int len, .long llb, .int lor, .int laa, .int lbb, .int lnu, .long lwa]))] H := hP
    have hD : va_D A [(s0, .inr (4, [.ref s1, .int shr, .int sft, .int sfl, .ref l0, .ref s2, .ref s3, .int slc, .ref s4, .ref s5, .ref s6, .int suc])), (s1, .inl (E.2.1 0, 1024, .inl swd)), (s2, .inl (E.2.1 1, 100, .inr (.inl (vp_updL slb slc.toNatClampNeg llb)))), (s3, .inl (E.2.1 0, 100, .inl sla)), (s4, .inl (E.2.1 1, 1024, .inr (.inl sul))), (s5, .inl (E.2.1 0, 1024, .inl sua)), (s6, .inl (E.2.1 0, 1024, .inl suL)), (l0, .inr (3, [.ref l9, .int lat, .int len, .long llb, .int lor, .int laa, .int lbb, .int lnu, .long lwa]))] := hD
    refine lv_aload_n J.1 J.2.1 d_AS_placeLine_28 rfl (lv_at hl 0 rfl) ?_
    refine jg J hJ hP 0 rfl rfl i_AS 6 (by decide) gf_AS_26 rfl d_AS_placeLine_29 ?_
    refine lv_aload_n J.1 J.2.1 d_AS_placeLine_32 rfl (lv_at hl 0 rfl) ?_
    refine jg J hJ hP 0 rfl rfl i_AS 7 (by decide) gf_AS_48 rfl d_AS_placeLine_33 ?_
    refine lv_aload_n J.1 J.2.1 d_AS_placeLine_36 rfl (lv_at hl 0 rfl) ?_
    refine jg J hJ hP 0 rfl rfl i_AS 1 (by decide) gf_AS_38 rfl d_AS_placeLine_37 ?_
    replace h := g_ck h
    obtain ⟨k_11, h⟩ := h
    refine jsi J hJ hP hD hS 3 rfl k_11 d_AS_placeLine_40 (WS' := [(s0, .inr (4, [.ref s1, .int shr, .int sft, .int sfl, .ref l0, .ref s2, .ref s3, .int slc, .ref s4, .ref s5, .ref s6, .int suc])), (s1, .inl (E.2.1 0, 1024, .inl swd)), (s2, .inl (E.2.1 1, 100, .inr (.inl (vp_updL slb slc.toNatClampNeg llb)))), (s3, .inl (E.2.1 0, 100, .inl (upd sla slc.toNatClampNeg shr))), (s4, .inl (E.2.1 1, 1024, .inr (.inl sul))), (s5, .inl (E.2.1 0, 1024, .inl sua)), (s6, .inl (E.2.1 0, 1024, .inl suL)), (l0, .inr (3, [.ref l9, .int lat, .int len, .long llb, .int lor, .int laa, .int lbb, .int lnu, .long lwa]))]) rfl ?_
    clear hP hD hS
    intro H locs hP hD hS
    refine lv_aload_n J.1 J.2.1 d_AS_placeLine_41 rfl (lv_at hl 0 rfl) ?_
    refine lv_dup J.1 J.2.1 d_AS_placeLine_42 rfl ?_
    refine jg J hJ hP 0 rfl rfl i_AS 7 (by decide) gf_AS_48 rfl d_AS_placeLine_43 ?_
    refine lv_iconst (v := 1) J.1 J.2.1 d_AS_placeLine_46 (by decide) ?_
    refine lv_iadd J.1 J.2.1 d_AS_placeLine_47 ?_
    refine jp J hJ hP hD hS 0 rfl rfl i_AS t_AS t_AS_ok n_AS 7 (by decide) gf_AS_48 rfl rfl rfl (Nat.le_of_ble_eq_true rfl) d_AS_placeLine_48 (WS' := [(s0, .inr (4, [.ref s1, .int shr, .int sft, .int sfl, .ref l0, .ref s2, .ref s3, .int (slc + 1), .ref s4, .ref s5, .ref s6, .int suc])), (s1, .inl (E.2.1 0, 1024, .inl swd)), (s2, .inl (E.2.1 1, 100, .inr (.inl (vp_updL slb slc.toNatClampNeg llb)))), (s3, .inl (E.2.1 0, 100, .inl (upd sla slc.toNatClampNeg shr))), (s4, .inl (E.2.1 1, 1024, .inr (.inl sul))), (s5, .inl (E.2.1 0, 1024, .inl sua)), (s6, .inl (E.2.1 0, 1024, .inl suL)), (l0, .inr (3, [.ref l9, .int lat, .int len, .long llb, .int lor, .int laa, .int lbb, .int lnu, .long lwa]))]) rfl ?_
    clear hP hD hS
    intro H locs hP hD hS
    exact kb_AS_placeLine_51 J hJ hA hZ _ _ _ _ _ _ _ _ _ _ _ _ _ _ _ _ _ _ _ _ _ _ _ _ h hP hD hS (lv_sub hl [0, 1] rfl)

theorem hd_AS_fillUses : y_AS_fillUses.cls ≠ "java/lang/invoke/MethodHandle" ∧ y_AS_fillUses.cls ≠ "java/lang/invoke/VarHandle" ∧ (parseMethodDescriptor y_AS_fillUses.desc).map (fun d => d.parameters.length) = some 0 := by decide +kernel
def b_AS_fillUses_2 : Nat → Int32 → Int32 → Int32 → Int32 → (Nat → Int32) → (Nat → Int64) → (Nat → Int32) → (Nat → Int64) → (Nat → Int32) → (Nat → Int32) → Int32 → Option (Int32 × Int32 × (Nat → Int32))
  | 0, _, _, _, _, _, _, _, _, _, _, _ => none
  | n + 1, sft, sfl, slc, suc, swd, slb, sla, sul, sua, suL, x1 => (if suc ≤ x1 then (some (sft, sfl, swd)) else (if sft = (0 : Int32) then (if ck x1 1024 then ((f_AS_addressOf slc slb sla (sul x1.toNatClampNeg)).bind fun r_4 => (if r_4 = (-1 : Int32) then (if ck x1 1024 then ((f_AS_tellFault sft sfl 5 (suL x1.toNatClampNeg)).bind fun (sft_10, sfl_10) => b_AS_fillUses_2 n sft_10 sfl_10 slc suc swd slb sla sul sua suL (x1 + 1)) else none) else (if ck x1 1024 then (if ck (sua x1.toNatClampNeg) 1024 then (if ck (sua x1.toNatClampNeg) 1024 then b_AS_fillUses_2 n sft sfl slc suc (upd swd (sua x1.toNatClampNeg).toNatClampNeg (((swd (sua x1.toNatClampNeg).toNatClampNeg) + r_4) &&& 65535)) slb sla sul sua suL (x1 + 1) else none) else none) else none))) else none) else (some (sft, sfl, swd))))
def f_AS_fillUses (sft : Int32) (sfl : Int32) (slc : Int32) (suc : Int32) (swd : Nat → Int32) (slb : Nat → Int64) (sla : Nat → Int32) (sul : Nat → Int64) (sua : Nat → Int32) (suL : Nat → Int32) : Option (Int32 × Int32 × (Nat → Int32)) := b_AS_fillUses_2 65536 sft sfl slc suc swd slb sla sul sua suL 0
set_option maxHeartbeats 4000000 in
set_option maxRecDepth 100000 in
theorem kb_AS_fillUses_2 {p : Program} {l : Launch} {e : Env} {s : State} {m : MethodId} {below : List Frame} {meth : Method} {c : Code} {A : Nat → Prop} {E : jz_E} {l0 s0 s1 s2 s3 s4 s5 s6 : Nat} {o_sft : Int32} {o_sfl : Int32} {o_swd : Nat → Int32} (J : JC p s m ([.ref s0] : List Value).toArray meth c c_AS_fillUses 4 none y_AS_fillUses.cls) (hJ : jE E s) (hA : ∀ q : Nat, s.heap.size ≤ q → A q) (hZ : jz_ok E A s s.heap) : ∀ (n : Nat) (shr : Int32) (sft : Int32) (sfl : Int32) (slc : Int32) (suc : Int32) (swd : Nat → Int32) (slb : Nat → Int64) (sla : Nat → Int32) (sul : Nat → Int64) (sua : Nat → Int32) (suL : Nat → Int32) (x1 : Int32) (H : Heap) (locs : List Loc) (ls : Array Slot), b_AS_fillUses_2 n sft sfl slc suc swd slb sla sul sua suL x1 = some (o_sft, o_sfl, o_swd) → va_P E.1 classes [(s0, .inr (4, [.ref s1, .int shr, .int sft, .int sfl, .ref l0, .ref s2, .ref s3, .int slc, .ref s4, .ref s5, .ref s6, .int suc])), (s1, .inl (E.2.1 0, 1024, .inl swd)), (s2, .inl (E.2.1 1, 100, .inr (.inl slb))), (s3, .inl (E.2.1 0, 100, .inl sla)), (s4, .inl (E.2.1 1, 1024, .inr (.inl sul))), (s5, .inl (E.2.1 0, 1024, .inl sua)), (s6, .inl (E.2.1 0, 1024, .inl suL))] H → va_D A [(s0, .inr (4, [.ref s1, .int shr, .int sft, .int sfl, .ref l0, .ref s2, .ref s3, .int slc, .ref s4, .ref s5, .ref s6, .int suc])), (s1, .inl (E.2.1 0, 1024, .inl swd)), (s2, .inl (E.2.1 1, 100, .inr (.inl slb))), (s3, .inl (E.2.1 0, 100, .inl sla)), (s4, .inl (E.2.1 1, 1024, .inr (.inl sul))), (s5, .inl (E.2.1 0, 1024, .inl sua)), (s6, .inl (E.2.1 0, 1024, .inl suL))] → va_S A s.heap H locs → lv_has ls 4 [(0, .ref s0), (1, .int x1)] → W p l e ({ frames := 1, cells := 0, slots := 0, locals := 23 }) s m ([.ref s0] : List Value).toArray below meth c H locs 0 0 (MQ below (va_Qv (fun (u : va_W) => u = [(s0, .inr (4, [.ref s1, .int shr, .int o_sft, .int o_sfl, .ref l0, .ref s2, .ref s3, .int slc, .ref s4, .ref s5, .ref s6, .int suc])), (s1, .inl (E.2.1 0, 1024, .inl o_swd)), (s2, .inl (E.2.1 1, 100, .inr (.inl slb))), (s3, .inl (E.2.1 0, 100, .inl sla)), (s4, .inl (E.2.1 1, 1024, .inr (.inl sul))), (s5, .inl (E.2.1 0, 1024, .inl sua)), (s6, .inl (E.2.1 0, 1024, .inl suL))]) (BW E A) A) ([.ref s0] : List Value).toArray s 0 0 A) (F0 m 2 ls []) := by
  intro n
  induction n with
  | zero => intro shr sft sfl slc suc swd slb sla sul sua suL x1 H locs ls h; cases h
  | succ n ih =>
    intro shr sft sfl slc suc swd slb sla sul sua suL x1 H locs ls h hP hD hS hl
    rw [b_AS_fillUses_2] at h
    refine lv_iload_n J.1 J.2.1 d_AS_fillUses_2 rfl (lv_at hl 1 rfl) ?_
    refine lv_aload_n J.1 J.2.1 d_AS_fillUses_3 rfl (lv_at hl 0 rfl) ?_
    refine jg J hJ hP 0 rfl rfl i_AS 11 (by decide) gf_AS_51 rfl d_AS_fillUses_4 ?_
    refine lv_icmp_ge (tgt := 77) J.1 J.2.1 d_AS_fillUses_7 (by decide) (fun c_1 => ?_) (fun c_1 => ?_)
    · replace h := g_t c_1 h
      have h := Option.some.inj h
      have e_0 := (Prod.mk.inj h).1
      have h := (Prod.mk.inj h).2
      have e_1 := (Prod.mk.inj h).1
      have h := (Prod.mk.inj h).2
      rw [← e_0, ← e_1, ← h]
      exact jr_v J hS hP hD d_AS_fillUses_77
    · replace h := g_f c_1 h
      refine lv_aload_n J.1 J.2.1 d_AS_fillUses_10 rfl (lv_at hl 0 rfl) ?_
      refine jg J hJ hP 0 rfl rfl i_AS 2 (by decide) gf_AS_42 rfl d_AS_fillUses_11 ?_
      refine lv_if_ne (tgt := 77) J.1 J.2.1 d_AS_fillUses_14 (by decide) (fun c_2 => ?_) (fun c_2 => ?_)
      · replace h := g_f c_2 h
        have h := Option.some.inj h
        have e_0 := (Prod.mk.inj h).1
        have h := (Prod.mk.inj h).2
        have e_1 := (Prod.mk.inj h).1
        have h := (Prod.mk.inj h).2
        rw [← e_0, ← e_1, ← h]
        exact jr_v J hS hP hD d_AS_fillUses_77
      · replace h := g_t c_2 h
        refine lv_aload_n J.1 J.2.1 d_AS_fillUses_17 rfl (lv_at hl 0 rfl) ?_
        refine lv_aload_n J.1 J.2.1 d_AS_fillUses_18 rfl (lv_at hl 0 rfl) ?_
        refine jg J hJ hP 0 rfl rfl i_AS 8 (by decide) gf_AS_29 rfl d_AS_fillUses_19 ?_
        refine lv_iload_n J.1 J.2.1 d_AS_fillUses_22 rfl (lv_at hl 1 rfl) ?_
        replace h := g_ck h
        obtain ⟨k_3, h⟩ := h
        refine va_lald J.1 J.2.1 hJ.1 hP 4 1 rfl rfl k_3 d_AS_fillUses_23 ?_
        replace h := g_bd h
        obtain ⟨r_4, q_4, h⟩ := h
        have hq := ct_AS_addressOf l E l0 s0 s1 s2 s3 s4 s5 s6 H.size shr sft sfl slc suc slb sla (sul x1.toNatClampNeg) r_4 q_4
        have hr := jrunV (p := p) (e := e) (below := below) (R := ({ frames := 1, cells := 0, slots := 0, locals := 23 })) (cells := 0) (slots := 0) (As := [.long (sul x1.toNatClampNeg)]) (rest := []) J hJ hA hZ hP hD hS hq [0, 2, 3] rfl (by decide) gl_AS_87 gi_AS_addressOf gsel_AS_addressOf gini_AS gc_AS_addressOf hd_AS_addressOf ⟨rfl, rfl, Nat.le_of_ble_eq_true rfl, Nat.le_of_ble_eq_true rfl⟩ rfl rfl hl.1 rfl rfl (Nat.le_of_ble_eq_true rfl) d_AS_fillUses_24 ⟨Nat.zero_le _, Nat.zero_le _⟩
        clear hq
        refine jk_i hr hA hP hD hS [0, 2, 3] [1, 4, 5, 6] (WR := [(s1, .inl (E.2.1 0, 1024, .inl swd)), (s4, .inl (E.2.1 1, 1024, .inr (.inl sul))), (s5, .inl (E.2.1 0, 1024, .inl sua)), (s6, .inl (E.2.1 0, 1024, .inl suL))]) rfl rfl (by decide) (by decide) [4, 0, 5, 6, 1, 2, 3] (WF := [(s0, .inr (4, [.ref s1, .int shr, .int sft, .int sfl, .ref l0, .ref s2, .ref s3, .int slc, .ref s4, .ref s5, .ref s6, .int suc])), (s1, .inl (E.2.1 0, 1024, .inl swd)), (s2, .inl (E.2.1 1, 100, .inr (.inl slb))), (s3, .inl (E.2.1 0, 100, .inl sla)), (s4, .inl (E.2.1 1, 1024, .inr (.inl sul))), (s5, .inl (E.2.1 0, 1024, .inl sua)), (s6, .inl (E.2.1 0, 1024, .inl suL))]) rfl (by decide) ?_
        clear hP hD hS
        intro H locs hP hD hS
        clear hr
        refine lv_istore_n (lv' := [(2, .int r_4), (0, .ref s0), (1, .int x1)]) J.1 J.2.1 d_AS_fillUses_27 rfl hl (by decide) rfl ?_
        clear hl
        intro ls hl
        refine lv_iload_n J.1 J.2.1 d_AS_fillUses_28 rfl (lv_at hl 0 rfl) ?_
        refine lv_iconst (v := (-1)) J.1 J.2.1 d_AS_fillUses_29 (by decide) ?_
        refine lv_icmp_ne (tgt := 47) J.1 J.2.1 d_AS_fillUses_30 (by decide) (fun c_5 => ?_) (fun c_5 => ?_)
        · replace h := g_f c_5 h
          refine lv_aload_n J.1 J.2.1 d_AS_fillUses_47 rfl (lv_at hl 1 rfl) ?_
          refine jg J hJ hP 0 rfl rfl i_AS 9 (by decide) gf_AS_32 rfl d_AS_fillUses_48 ?_
          refine lv_iload_n J.1 J.2.1 d_AS_fillUses_51 rfl (lv_at hl 2 rfl) ?_
          replace h := g_ck h
          obtain ⟨k_6, h⟩ := h
          refine jai J hJ hP 5 rfl k_6 d_AS_fillUses_52 ?_
          refine lv_istore_n (lv' := [(3, .int (sua x1.toNatClampNeg)), (2, .int r_4), (0, .ref s0), (1, .int x1)]) J.1 J.2.1 d_AS_fillUses_53 rfl hl (by decide) rfl ?_
          clear hl
          intro ls hl
          refine lv_aload_n J.1 J.2.1 d_AS_fillUses_54 rfl (lv_at hl 2 rfl) ?_
          refine jg J hJ hP 0 rfl rfl i_AS 0 (by decide) gf_AS_9 rfl d_AS_fillUses_55 ?_
          refine lv_iload_n J.1 J.2.1 d_AS_fillUses_58 rfl (lv_at hl 0 rfl) ?_
          refine lv_aload_n J.1 J.2.1 d_AS_fillUses_59 rfl (lv_at hl 2 rfl) ?_
          refine jg J hJ hP 0 rfl rfl i_AS 0 (by decide) gf_AS_9 rfl d_AS_fillUses_60 ?_
          refine lv_iload_n J.1 J.2.1 d_AS_fillUses_63 rfl (lv_at hl 0 rfl) ?_
          replace h := g_ck h
          obtain ⟨k_7, h⟩ := h
          refine jai J hJ hP 1 rfl k_7 d_AS_fillUses_64 ?_
          refine lv_iload_n J.1 J.2.1 d_AS_fillUses_65 rfl (lv_at hl 1 rfl) ?_
          refine lv_iadd J.1 J.2.1 d_AS_fillUses_66 ?_
          refine lv_ldc (v := 65535) J.1 J.2.1 J.2.2.2.2.1 (J.2.2.2.2.2.1 _ gk_AS_114) d_AS_fillUses_67 ?_
          refine lv_iand J.1 J.2.1 d_AS_fillUses_69 ?_
          replace h := g_ck h
          obtain ⟨k_8, h⟩ := h
          refine jsi J hJ hP hD hS 1 rfl k_8 d_AS_fillUses_70 (WS' := [(s0, .inr (4, [.ref s1, .int shr, .int sft, .int sfl, .ref l0, .ref s2, .ref s3, .int slc, .ref s4, .ref s5, .ref s6, .int suc])), (s1, .inl (E.2.1 0, 1024, .inl (upd swd (sua x1.toNatClampNeg).toNatClampNeg (((swd (sua x1.toNatClampNeg).toNatClampNeg) + r_4) &&& 65535)))), (s2, .inl (E.2.1 1, 100, .inr (.inl slb))), (s3, .inl (E.2.1 0, 100, .inl sla)), (s4, .inl (E.2.1 1, 1024, .inr (.inl sul))), (s5, .inl (E.2.1 0, 1024, .inl sua)), (s6, .inl (E.2.1 0, 1024, .inl suL))]) rfl ?_
          clear hP hD hS
          intro H locs hP hD hS
          refine lv_iinc (v := (x1 + 1)) (lv' := [(1, .int (x1 + 1)), (3, .int (sua x1.toNatClampNeg)), (2, .int r_4), (0, .ref s0)]) J.1 J.2.1 d_AS_fillUses_71 hl (k := 3) rfl rfl (by decide) rfl ?_
          clear hl
          intro ls hl
          refine lv_goto (tgt := 2) J.1 J.2.1 d_AS_fillUses_74 (by decide) ?_
          exact ih _ _ _ _ _ _ _ _ _ _ _ _ _ _ _ h hP hD hS (lv_sub hl [3, 0] rfl)
        · replace h := g_t c_5 h
          refine lv_aload_n J.1 J.2.1 d_AS_fillUses_33 rfl (lv_at hl 1 rfl) ?_
          refine lv_iconst (v := 5) J.1 J.2.1 d_AS_fillUses_34 (by decide) ?_
          refine lv_aload_n J.1 J.2.1 d_AS_fillUses_35 rfl (lv_at hl 1 rfl) ?_
          refine jg J hJ hP 0 rfl rfl i_AS 10 (by decide) gf_AS_35 rfl d_AS_fillUses_36 ?_
          refine lv_iload_n J.1 J.2.1 d_AS_fillUses_39 rfl (lv_at hl 2 rfl) ?_
          replace h := g_ck h
          obtain ⟨k_9, h⟩ := h
          refine jai J hJ hP 6 rfl k_9 d_AS_fillUses_40 ?_
          replace h := g_bd h
          obtain ⟨⟨sft_10, sfl_10⟩, q_10, h⟩ := h
          try dsimp only at h
          have hq := ct_AS_tellFault l E l0 s0 s1 s2 s3 s4 s5 s6 H.size shr sft sfl slc suc 5 (suL x1.toNatClampNeg) sft_10 sfl_10 q_10
          have hr := jrunV (p := p) (e := e) (below := below) (R := ({ frames := 1, cells := 0, slots := 0, locals := 23 })) (cells := 0) (slots := 0) (As := [.int 5, .int (suL x1.toNatClampNeg)]) (rest := []) J hJ hA hZ hP hD hS hq [0] rfl (by decide) gl_AS_66 gi_AS_tellFault gsel_AS_tellFault gini_AS gc_AS_tellFault hd_AS_tellFault ⟨rfl, rfl, Nat.le_of_ble_eq_true rfl, Nat.le_of_ble_eq_true rfl⟩ rfl rfl hl.1 rfl rfl (Nat.le_of_ble_eq_true rfl) d_AS_fillUses_41 ⟨Nat.zero_le _, Nat.zero_le _⟩
          clear hq
          refine jk_v hr hA hP hD hS [0] [1, 2, 3, 4, 5, 6] (WR := [(s1, .inl (E.2.1 0, 1024, .inl swd)), (s2, .inl (E.2.1 1, 100, .inr (.inl slb))), (s3, .inl (E.2.1 0, 100, .inl sla)), (s4, .inl (E.2.1 1, 1024, .inr (.inl sul))), (s5, .inl (E.2.1 0, 1024, .inl sua)), (s6, .inl (E.2.1 0, 1024, .inl suL))]) rfl rfl (by decide) (by decide) [6, 0, 1, 2, 3, 4, 5] (WF := [(s0, .inr (4, [.ref s1, .int shr, .int sft_10, .int sfl_10, .ref l0, .ref s2, .ref s3, .int slc, .ref s4, .ref s5, .ref s6, .int suc])), (s1, .inl (E.2.1 0, 1024, .inl swd)), (s2, .inl (E.2.1 1, 100, .inr (.inl slb))), (s3, .inl (E.2.1 0, 100, .inl sla)), (s4, .inl (E.2.1 1, 1024, .inr (.inl sul))), (s5, .inl (E.2.1 0, 1024, .inl sua)), (s6, .inl (E.2.1 0, 1024, .inl suL))]) rfl (by decide) ?_
          clear hP hD hS
          intro H locs hP hD hS
          clear hr
          refine lv_goto (tgt := 71) J.1 J.2.1 d_AS_fillUses_44 (by decide) ?_
          refine lv_iinc (v := (x1 + 1)) (lv' := [(1, .int (x1 + 1)), (2, .int r_4), (0, .ref s0)]) J.1 J.2.1 d_AS_fillUses_71 hl (k := 2) rfl rfl (by decide) rfl ?_
          clear hl
          intro ls hl
          refine lv_goto (tgt := 2) J.1 J.2.1 d_AS_fillUses_74 (by decide) ?_
          exact ih _ _ _ _ _ _ _ _ _ _ _ _ _ _ _ h hP hD hS (lv_sub hl [2, 0] rfl)
set_option maxHeartbeats 4000000 in
set_option maxRecDepth 100000 in
theorem ct_AS_fillUses (l : Launch) (E : jz_E) (l0 s0 s1 s2 s3 s4 s5 s6 : Nat) (sz : Nat) (shr : Int32) (sft : Int32) (sfl : Int32) (slc : Int32) (suc : Int32) (swd : Nat → Int32) (slb : Nat → Int64) (sla : Nat → Int32) (sul : Nat → Int64) (sua : Nat → Int32) (suL : Nat → Int32) (o_sft : Int32) (o_sfl : Int32) (o_swd : Nat → Int32)  (h : f_AS_fillUses sft sfl slc suc swd slb sla sul sua suL = some (o_sft, o_sfl, o_swd)) : CTv l E y_AS_fillUses c_AS_fillUses 4 none ({ frames := 1, cells := 0, slots := 0, locals := 23 }) [.ref s0] [(s0, .inr (4, [.ref s1, .int shr, .int sft, .int sfl, .ref l0, .ref s2, .ref s3, .int slc, .ref s4, .ref s5, .ref s6, .int suc])), (s1, .inl (E.2.1 0, 1024, .inl swd)), (s2, .inl (E.2.1 1, 100, .inr (.inl slb))), (s3, .inl (E.2.1 0, 100, .inl sla)), (s4, .inl (E.2.1 1, 1024, .inr (.inl sul))), (s5, .inl (E.2.1 0, 1024, .inl sua)), (s6, .inl (E.2.1 0, 1024, .inl suL))] sz [(s0, .inr (4, [.ref s1, .int shr, .int o_sft, .int o_sfl, .ref l0, .ref s2, .ref s3, .int slc, .ref s4, .ref s5, .ref s6, .int suc])), (s1, .inl (E.2.1 0, 1024, .inl o_swd)), (s2, .inl (E.2.1 1, 100, .inr (.inl slb))), (s3, .inl (E.2.1 0, 100, .inl sla)), (s4, .inl (E.2.1 1, 1024, .inr (.inl sul))), (s5, .inl (E.2.1 0, 1024, .inl sua)), (s6, .inl (E.2.1 0, 1024, .inl suL))] := by
  refine jw (by decide +kernel) (Nat.le_of_ble_eq_true rfl) ?_
  intro p e s m below meth c A ls J hJ hAe hsz hA hZ hP hD hl
  rw [← hAe]
  have hS : va_S A s.heap s.heap [] := va_S.rf
  have hl : lv_has ls 4 [(0, .ref s0)] := hl
  unfold f_AS_fillUses at h
  refine lv_iconst (v := 0) J.1 J.2.1 d_AS_fillUses_0 (by decide) ?_
  refine lv_istore_n (lv' := [(1, .int 0), (0, .ref s0)]) J.1 J.2.1 d_AS_fillUses_1 rfl hl (by decide) rfl ?_
  clear hl
  intro ls hl
  exact kb_AS_fillUses_2 J hJ hA hZ _ _ _ _ _ _ _ _ _ _ _ _ _ _ _ _ h hP hD hS (lv_sub hl [1, 0] rfl)

theorem hd_AS_assemble : y_AS_assemble.cls ≠ "java/lang/invoke/MethodHandle" ∧ y_AS_assemble.cls ≠ "java/lang/invoke/VarHandle" ∧ (parseMethodDescriptor y_AS_assemble.desc).map (fun d => d.parameters.length) = some 3 := by decide +kernel
def b_AS_assemble_31 (l1 : Nat) : Nat → (Nat → Int32) → Int32 → Int32 → Int32 → Int32 → Int32 → (Nat → Int32) → (Nat → Int64) → (Nat → Int32) → (Nat → Int64) → (Nat → Int32) → (Nat → Int32) → Nat → Int32 → Int32 → Int64 → Int32 → Int32 → Int32 → Int32 → Int64 → (Nat → Int32) → Int32 → Int32 → Int32 → Int32 → Option (Int32 × Int32 × Int32 × Int32 × Int32 × (Nat → Int32) × (Nat → Int64) × (Nat → Int32) × (Nat → Int64) × (Nat → Int32) × (Nat → Int32) × Nat × Int32 × Int32 × Int64 × Int32 × Int32 × Int32 × Int32 × Int64)
  | 0, _, _, _, _, _, _, _, _, _, _, _, _, _, _, _, _, _, _, _, _, _, _, _, _, _, _ => none
  | n + 1, wN, shr, sft, sfl, slc, suc, swd, slb, sla, sul, sua, suL, l9, lat, len, llb, lor, laa, lbb, lnu, lwa, ltx, x2, x3, x4, x5 => (if x2 < x5 then (if sft = (0 : Int32) then ((f_AS_fillUses sft sfl slc suc swd slb sla sul sua suL).bind fun (sft_3, sfl_3, swd_3) => (some (shr, sft_3, sfl_3, slc, suc, swd_3, slb, sla, sul, sua, suL, l9, lat, len, llb, lor, laa, lbb, lnu, lwa))) else (some (shr, sft, sfl, slc, suc, swd, slb, sla, sul, sua, suL, l9, lat, len, llb, lor, laa, lbb, lnu, lwa))) else (if x2 ≤ x4 then (if sft = (0 : Int32) then ((f_AS_fillUses sft sfl slc suc swd slb sla sul sua suL).bind fun (sft_6, sfl_6, swd_6) => (some (shr, sft_6, sfl_6, slc, suc, swd_6, slb, sla, sul, sua, suL, l9, lat, len, llb, lor, laa, lbb, lnu, lwa))) else (some (shr, sft, sfl, slc, suc, swd, slb, sla, sul, sua, suL, l9, lat, len, llb, lor, laa, lbb, lnu, lwa))) else (if sft = (0 : Int32) then ((f_AS_lineEnd ltx x4 x2).bind fun r_10 => ((f_LI_isReadFrom l1 wN ltx x4 r_10).bind fun (r_11, l9_11, lat_11, len_11, llb_11, lor_11, laa_11, lbb_11, lnu_11, lwa_11) => (if r_11 = (0 : Int32) then ((f_AS_tellFault sft sfl 1 x5).bind fun (sft_13, sfl_13) => (if sft_13 = (0 : Int32) then ((f_AS_placeLine shr slc suc swd slb sla sul sua suL llb_11 lor_11 laa_11 lbb_11 lnu_11 lwa_11 x5).bind fun (shr_15, slc_15, suc_15, swd_15, slb_15, sla_15, sul_15, sua_15, suL_15) => b_AS_assemble_31 l1 n wN shr_15 sft_13 sfl_13 slc_15 suc_15 swd_15 slb_15 sla_15 sul_15 sua_15 suL_15 l9_11 lat_11 len_11 llb_11 lor_11 laa_11 lbb_11 lnu_11 lwa_11 ltx x2 x3 (r_10 + 1) (x5 + 1)) else b_AS_assemble_31 l1 n wN shr sft_13 sfl_13 slc suc swd slb sla sul sua suL l9_11 lat_11 len_11 llb_11 lor_11 laa_11 lbb_11 lnu_11 lwa_11 ltx x2 x3 (r_10 + 1) (x5 + 1))) else ((f_AS_faultOfLine shr slc slb sla llb_11 lor_11 lnu_11 x3).bind fun r_16 => ((f_AS_tellFault sft sfl r_16 x5).bind fun (sft_17, sfl_17) => (if sft_17 = (0 : Int32) then ((f_AS_placeLine shr slc suc swd slb sla sul sua suL llb_11 lor_11 laa_11 lbb_11 lnu_11 lwa_11 x5).bind fun (shr_19, slc_19, suc_19, swd_19, slb_19, sla_19, sul_19, sua_19, suL_19) => b_AS_assemble_31 l1 n wN shr_19 sft_17 sfl_17 slc_19 suc_19 swd_19 slb_19 sla_19 sul_19 sua_19 suL_19 l9_11 lat_11 len_11 llb_11 lor_11 laa_11 lbb_11 lnu_11 lwa_11 ltx x2 x3 (r_10 + 1) (x5 + 1)) else b_AS_assemble_31 l1 n wN shr sft_17 sfl_17 slc suc swd slb sla sul sua suL l9_11 lat_11 len_11 llb_11 lor_11 laa_11 lbb_11 lnu_11 lwa_11 ltx x2 x3 (r_10 + 1) (x5 + 1))))))) else (if sft = (0 : Int32) then ((f_AS_fillUses sft sfl slc suc swd slb sla sul sua suL).bind fun (sft_9, sfl_9, swd_9) => (some (shr, sft_9, sfl_9, slc, suc, swd_9, slb, sla, sul, sua, suL, l9, lat, len, llb, lor, laa, lbb, lnu, lwa))) else (some (shr, sft, sfl, slc, suc, swd, slb, sla, sul, sua, suL, l9, lat, len, llb, lor, laa, lbb, lnu, lwa))))))
def f_AS_assemble (l1 : Nat) (wN : Nat → Int32) (swd : Nat → Int32) (slb : Nat → Int64) (sla : Nat → Int32) (sul : Nat → Int64) (sua : Nat → Int32) (suL : Nat → Int32) (l9 : Nat) (lat : Int32) (len : Int32) (llb : Int64) (lor : Int32) (laa : Int32) (lbb : Int32) (lnu : Int32) (lwa : Int64) (ltx : Nat → Int32) (p2 : Int32) (p3 : Int32) : Option (Int32 × Int32 × Int32 × Int32 × Int32 × (Nat → Int32) × (Nat → Int64) × (Nat → Int32) × (Nat → Int64) × (Nat → Int32) × (Nat → Int32) × Nat × Int32 × Int32 × Int64 × Int32 × Int32 × Int32 × Int32 × Int64) := b_AS_assemble_31 l1 65536 wN 0 0 0 0 0 swd slb sla sul sua suL l9 lat len llb lor laa lbb lnu lwa ltx p2 p3 0 1
set_option maxHeartbeats 4000000 in
set_option maxRecDepth 100000 in
theorem kb_AS_assemble_31 {p : Program} {l : Launch} {e : Env} {s : State} {m : MethodId} {below : List Frame} {meth : Method} {c : Code} {A : Nat → Prop} {E : jz_E} {l0 l1 s0 s1 s2 s3 s4 s5 s6 w8 : Nat} {wN : Nat → Int32} {p2 : Int32} {p3 : Int32} {o_shr : Int32} {o_sft : Int32} {o_sfl : Int32} {o_slc : Int32} {o_suc : Int32} {o_swd : Nat → Int32} {o_slb : Nat → Int64} {o_sla : Nat → Int32} {o_sul : Nat → Int64} {o_sua : Nat → Int32} {o_suL : Nat → Int32} {o_l9 : Nat} {o_lat : Int32} {o_len : Int32} {o_llb : Int64} {o_lor : Int32} {o_laa : Int32} {o_lbb : Int32} {o_lnu : Int32} {o_lwa : Int64} (J : JC p s m ([.ref s0, .ref l1, .int p2, .int p3] : List Value).toArray meth c c_AS_assemble 8 none y_AS_assemble.cls) (hJ : jE E s) (hA : ∀ q : Nat, s.heap.size ≤ q → A q) (hZ : jz_ok E A s s.heap) (hzC : ("java/lang/String", "COMPACT_STRINGS", "Z", Value.int 1) ∈ E.2.2.1) (hzN : (R_LI, "WANTS", "[I", Value.ref w8) ∈ E.2.2.1) (htN : (w8, 28, wN) ∈ E.2.2.2.1) : ∀ (n : Nat) (shr : Int32) (sft : Int32) (sfl : Int32) (slc : Int32) (suc : Int32) (swd : Nat → Int32) (slb : Nat → Int64) (sla : Nat → Int32) (sul : Nat → Int64) (sua : Nat → Int32) (suL : Nat → Int32) (l9 : Nat) (lat : Int32) (len : Int32) (llb : Int64) (lor : Int32) (laa : Int32) (lbb : Int32) (lnu : Int32) (lwa : Int64) (ltx : Nat → Int32) (x2 : Int32) (x3 : Int32) (x4 : Int32) (x5 : Int32) (H : Heap) (locs : List Loc) (ls : Array Slot), b_AS_assemble_31 l1 n wN shr sft sfl slc suc swd slb sla sul sua suL l9 lat len llb lor laa lbb lnu lwa ltx x2 x3 x4 x5 = some (o_shr, o_sft, o_sfl, o_slc, o_suc, o_swd, o_slb, o_sla, o_sul, o_sua, o_suL, o_l9, o_lat, o_len, o_llb, o_lor, o_laa, o_lbb, o_lnu, o_lwa) → va_P E.1 classes [(s0, .inr (4, [.ref s1, .int shr, .int sft, .int sfl, .ref l0, .ref s2, .ref s3, .int slc, .ref s4, .ref s5, .ref s6, .int suc])), (s1, .inl (E.2.1 0, 1024, .inl swd)), (s2, .inl (E.2.1 1, 100, .inr (.inl slb))), (s3, .inl (E.2.1 0, 100, .inl sla)), (s4, .inl (E.2.1 1, 1024, .inr (.inl sul))), (s5, .inl (E.2.1 0, 1024, .inl sua)), (s6, .inl (E.2.1 0, 1024, .inl suL)), (l0, .inr (3, [.ref l9, .int lat, .int len, .long llb, .int lor, .int laa, .int lbb, .int lnu, .long lwa])), (l1, .inl (E.2.1 0, 3000, .inl ltx))] H → va_D A [(s0, .inr (4, [.ref s1, .int shr, .int sft, .int sfl, .ref l0, .ref s2, .ref s3, .int slc, .ref s4, .ref s5, .ref s6, .int suc])), (s1, .inl (E.2.1 0, 1024, .inl swd)), (s2, .inl (E.2.1 1, 100, .inr (.inl slb))), (s3, .inl (E.2.1 0, 100, .inl sla)), (s4, .inl (E.2.1 1, 1024, .inr (.inl sul))), (s5, .inl (E.2.1 0, 1024, .inl sua)), (s6, .inl (E.2.1 0, 1024, .inl suL)), (l0, .inr (3, [.ref l9, .int lat, .int len, .long llb, .int lor, .int laa, .int lbb, .int lnu, .long lwa])), (l1, .inl (E.2.1 0, 3000, .inl ltx))] → va_S A s.heap H locs → lv_has ls 8 [(0, .ref s0), (1, .ref l1), (2, .int x2), (3, .int x3), (4, .int x4), (5, .int x5)] → W p l e ({ frames := 8, cells := 0, slots := 0, locals := 176 }) s m ([.ref s0, .ref l1, .int p2, .int p3] : List Value).toArray below meth c H locs 0 0 (MQ below (va_Qv (fun (u : va_W) => u = [(s0, .inr (4, [.ref s1, .int o_shr, .int o_sft, .int o_sfl, .ref l0, .ref s2, .ref s3, .int o_slc, .ref s4, .ref s5, .ref s6, .int o_suc])), (s1, .inl (E.2.1 0, 1024, .inl o_swd)), (s2, .inl (E.2.1 1, 100, .inr (.inl o_slb))), (s3, .inl (E.2.1 0, 100, .inl o_sla)), (s4, .inl (E.2.1 1, 1024, .inr (.inl o_sul))), (s5, .inl (E.2.1 0, 1024, .inl o_sua)), (s6, .inl (E.2.1 0, 1024, .inl o_suL)), (l0, .inr (3, [.ref o_l9, .int o_lat, .int o_len, .long o_llb, .int o_lor, .int o_laa, .int o_lbb, .int o_lnu, .long o_lwa])), (l1, .inl (E.2.1 0, 3000, .inl ltx))]) (BW E A) A) ([.ref s0, .ref l1, .int p2, .int p3] : List Value).toArray s 0 0 A) (F0 m 31 ls []) := by
  intro n
  induction n with
  | zero => intro shr sft sfl slc suc swd slb sla sul sua suL l9 lat len llb lor laa lbb lnu lwa ltx x2 x3 x4 x5 H locs ls h; cases h
  | succ n ih =>
    intro shr sft sfl slc suc swd slb sla sul sua suL l9 lat len llb lor laa lbb lnu lwa ltx x2 x3 x4 x5 H locs ls h hP hD hS hl
    rw [b_AS_assemble_31] at h
    refine lv_iload J.1 J.2.1 d_AS_assemble_31 (lv_at hl 5 rfl) ?_
    refine lv_iload_n J.1 J.2.1 d_AS_assemble_33 rfl (lv_at hl 2 rfl) ?_
    refine lv_icmp_gt (tgt := 118) J.1 J.2.1 d_AS_assemble_34 (by decide) (fun c_1 => ?_) (fun c_1 => ?_)
    · replace h := g_t c_1 h
      refine lv_aload_n J.1 J.2.1 d_AS_assemble_118 rfl (lv_at hl 0 rfl) ?_
      refine jg J hJ hP 0 rfl rfl i_AS 2 (by decide) gf_AS_42 rfl d_AS_assemble_119 ?_
      refine lv_if_ne (tgt := 129) J.1 J.2.1 d_AS_assemble_122 (by decide) (fun c_2 => ?_) (fun c_2 => ?_)
      · replace h := g_f c_2 h
        have h := Option.some.inj h
        have e_0 := (Prod.mk.inj h).1
        have h := (Prod.mk.inj h).2
        have e_1 := (Prod.mk.inj h).1
        have h := (Prod.mk.inj h).2
        have e_2 := (Prod.mk.inj h).1
        have h := (Prod.mk.inj h).2
        have e_3 := (Prod.mk.inj h).1
        have h := (Prod.mk.inj h).2
        have e_4 := (Prod.mk.inj h).1
        have h := (Prod.mk.inj h).2
        have e_5 := (Prod.mk.inj h).1
        have h := (Prod.mk.inj h).2
        have e_6 := (Prod.mk.inj h).1
        have h := (Prod.mk.inj h).2
        have e_7 := (Prod.mk.inj h).1
        have h := (Prod.mk.inj h).2
        have e_8 := (Prod.mk.inj h).1
        have h := (Prod.mk.inj h).2
        have e_9 := (Prod.mk.inj h).1
        have h := (Prod.mk.inj h).2
        have e_10 := (Prod.mk.inj h).1
        have h := (Prod.mk.inj h).2
        have e_11 := (Prod.mk.inj h).1
        have h := (Prod.mk.inj h).2
        have e_12 := (Prod.mk.inj h).1
        have h := (Prod.mk.inj h).2
        have e_13 := (Prod.mk.inj h).1
        have h := (Prod.mk.inj h).2
        have e_14 := (Prod.mk.inj h).1
        have h := (Prod.mk.inj h).2
        have e_15 := (Prod.mk.inj h).1
        have h := (Prod.mk.inj h).2
        have e_16 := (Prod.mk.inj h).1
        have h := (Prod.mk.inj h).2
        have e_17 := (Prod.mk.inj h).1
        have h := (Prod.mk.inj h).2
        have e_18 := (Prod.mk.inj h).1
        have h := (Prod.mk.inj h).2
        rw [← e_0, ← e_1, ← e_2, ← e_3, ← e_4, ← e_5, ← e_6, ← e_7, ← e_8, ← e_9, ← e_10, ← e_11, ← e_12, ← e_13, ← e_14, ← e_15, ← e_16, ← e_17, ← e_18, ← h]
        exact jr_v J hS hP hD d_AS_assemble_129
      · replace h := g_t c_2 h
        refine lv_aload_n J.1 J.2.1 d_AS_assemble_125 rfl (lv_at hl 0 rfl) ?_
        replace h := g_bd h
        obtain ⟨⟨sft_3, sfl_3, swd_3⟩, q_3, h⟩ := h
        try dsimp only at h
        have hq := ct_AS_fillUses l E l0 s0 s1 s2 s3 s4 s5 s6 H.size shr sft sfl slc suc swd slb sla sul sua suL sft_3 sfl_3 swd_3 q_3
        have hr := jrunV (p := p) (e := e) (below := below) (R := ({ frames := 8, cells := 0, slots := 0, locals := 176 })) (cells := 0) (slots := 0) (As := []) (rest := []) J hJ hA hZ hP hD hS hq [0, 1, 2, 3, 4, 5, 6] rfl (by decide) gl_AS_74 gi_AS_fillUses gsel_AS_fillUses gini_AS gc_AS_fillUses hd_AS_fillUses ⟨rfl, rfl, Nat.le_of_ble_eq_true rfl, Nat.le_of_ble_eq_true rfl⟩ rfl rfl hl.1 rfl rfl (Nat.le_of_ble_eq_true rfl) d_AS_assemble_126 ⟨Nat.zero_le _, Nat.zero_le _⟩
        clear hq
        refine jk_v hr hA hP hD hS [0, 1, 2, 3, 4, 5, 6] [7, 8] (WR := [(l0, .inr (3, [.ref l9, .int lat, .int len, .long llb, .int lor, .int laa, .int lbb, .int lnu, .long lwa])), (l1, .inl (E.2.1 0, 3000, .inl ltx))]) rfl rfl (by decide) (by decide) [2, 3, 4, 5, 6, 7, 8, 0, 1] (WF := [(s0, .inr (4, [.ref s1, .int shr, .int sft_3, .int sfl_3, .ref l0, .ref s2, .ref s3, .int slc, .ref s4, .ref s5, .ref s6, .int suc])), (s1, .inl (E.2.1 0, 1024, .inl swd_3)), (s2, .inl (E.2.1 1, 100, .inr (.inl slb))), (s3, .inl (E.2.1 0, 100, .inl sla)), (s4, .inl (E.2.1 1, 1024, .inr (.inl sul))), (s5, .inl (E.2.1 0, 1024, .inl sua)), (s6, .inl (E.2.1 0, 1024, .inl suL)), (l0, .inr (3, [.ref l9, .int lat, .int len, .long llb, .int lor, .int laa, .int lbb, .int lnu, .long lwa])), (l1, .inl (E.2.1 0, 3000, .inl ltx))]) rfl (by decide) ?_
        clear hP hD hS
        intro H locs hP hD hS
        clear hr
        have h := Option.some.inj h
        have e_0 := (Prod.mk.inj h).1
        have h := (Prod.mk.inj h).2
        have e_1 := (Prod.mk.inj h).1
        have h := (Prod.mk.inj h).2
        have e_2 := (Prod.mk.inj h).1
        have h := (Prod.mk.inj h).2
        have e_3 := (Prod.mk.inj h).1
        have h := (Prod.mk.inj h).2
        have e_4 := (Prod.mk.inj h).1
        have h := (Prod.mk.inj h).2
        have e_5 := (Prod.mk.inj h).1
        have h := (Prod.mk.inj h).2
        have e_6 := (Prod.mk.inj h).1
        have h := (Prod.mk.inj h).2
        have e_7 := (Prod.mk.inj h).1
        have h := (Prod.mk.inj h).2
        have e_8 := (Prod.mk.inj h).1
        have h := (Prod.mk.inj h).2
        have e_9 := (Prod.mk.inj h).1
        have h := (Prod.mk.inj h).2
        have e_10 := (Prod.mk.inj h).1
        have h := (Prod.mk.inj h).2
        have e_11 := (Prod.mk.inj h).1
        have h := (Prod.mk.inj h).2
        have e_12 := (Prod.mk.inj h).1
        have h := (Prod.mk.inj h).2
        have e_13 := (Prod.mk.inj h).1
        have h := (Prod.mk.inj h).2
        have e_14 := (Prod.mk.inj h).1
        have h := (Prod.mk.inj h).2
        have e_15 := (Prod.mk.inj h).1
        have h := (Prod.mk.inj h).2
        have e_16 := (Prod.mk.inj h).1
        have h := (Prod.mk.inj h).2
        have e_17 := (Prod.mk.inj h).1
        have h := (Prod.mk.inj h).2
        have e_18 := (Prod.mk.inj h).1
        have h := (Prod.mk.inj h).2
        rw [← e_0, ← e_1, ← e_2, ← e_3, ← e_4, ← e_5, ← e_6, ← e_7, ← e_8, ← e_9, ← e_10, ← e_11, ← e_12, ← e_13, ← e_14, ← e_15, ← e_16, ← e_17, ← e_18, ← h]
        exact jr_v J hS hP hD d_AS_assemble_129
    · replace h := g_f c_1 h
      refine lv_iload J.1 J.2.1 d_AS_assemble_37 (lv_at hl 4 rfl) ?_
      refine lv_iload_n J.1 J.2.1 d_AS_assemble_39 rfl (lv_at hl 2 rfl) ?_
      refine lv_icmp_ge (tgt := 118) J.1 J.2.1 d_AS_assemble_40 (by decide) (fun c_4 => ?_) (fun c_4 => ?_)
      · replace h := g_t c_4 h
        refine lv_aload_n J.1 J.2.1 d_AS_assemble_118 rfl (lv_at hl 0 rfl) ?_
        refine jg J hJ hP 0 rfl rfl i_AS 2 (by decide) gf_AS_42 rfl d_AS_assemble_119 ?_
        refine lv_if_ne (tgt := 129) J.1 J.2.1 d_AS_assemble_122 (by decide) (fun c_5 => ?_) (fun c_5 => ?_)
        · replace h := g_f c_5 h
          have h := Option.some.inj h
          have e_0 := (Prod.mk.inj h).1
          have h := (Prod.mk.inj h).2
          have e_1 := (Prod.mk.inj h).1
          have h := (Prod.mk.inj h).2
          have e_2 := (Prod.mk.inj h).1
          have h := (Prod.mk.inj h).2
          have e_3 := (Prod.mk.inj h).1
          have h := (Prod.mk.inj h).2
          have e_4 := (Prod.mk.inj h).1
          have h := (Prod.mk.inj h).2
          have e_5 := (Prod.mk.inj h).1
          have h := (Prod.mk.inj h).2
          have e_6 := (Prod.mk.inj h).1
          have h := (Prod.mk.inj h).2
          have e_7 := (Prod.mk.inj h).1
          have h := (Prod.mk.inj h).2
          have e_8 := (Prod.mk.inj h).1
          have h := (Prod.mk.inj h).2
          have e_9 := (Prod.mk.inj h).1
          have h := (Prod.mk.inj h).2
          have e_10 := (Prod.mk.inj h).1
          have h := (Prod.mk.inj h).2
          have e_11 := (Prod.mk.inj h).1
          have h := (Prod.mk.inj h).2
          have e_12 := (Prod.mk.inj h).1
          have h := (Prod.mk.inj h).2
          have e_13 := (Prod.mk.inj h).1
          have h := (Prod.mk.inj h).2
          have e_14 := (Prod.mk.inj h).1
          have h := (Prod.mk.inj h).2
          have e_15 := (Prod.mk.inj h).1
          have h := (Prod.mk.inj h).2
          have e_16 := (Prod.mk.inj h).1
          have h := (Prod.mk.inj h).2
          have e_17 := (Prod.mk.inj h).1
          have h := (Prod.mk.inj h).2
          have e_18 := (Prod.mk.inj h).1
          have h := (Prod.mk.inj h).2
          rw [← e_0, ← e_1, ← e_2, ← e_3, ← e_4, ← e_5, ← e_6, ← e_7, ← e_8, ← e_9, ← e_10, ← e_11, ← e_12, ← e_13, ← e_14, ← e_15, ← e_16, ← e_17, ← e_18, ← h]
          exact jr_v J hS hP hD d_AS_assemble_129
        · replace h := g_t c_5 h
          refine lv_aload_n J.1 J.2.1 d_AS_assemble_125 rfl (lv_at hl 0 rfl) ?_
          replace h := g_bd h
          obtain ⟨⟨sft_6, sfl_6, swd_6⟩, q_6, h⟩ := h
          try dsimp only at h
          have hq := ct_AS_fillUses l E l0 s0 s1 s2 s3 s4 s5 s6 H.size shr sft sfl slc suc swd slb sla sul sua suL sft_6 sfl_6 swd_6 q_6
          have hr := jrunV (p := p) (e := e) (below := below) (R := ({ frames := 8, cells := 0, slots := 0, locals := 176 })) (cells := 0) (slots := 0) (As := []) (rest := []) J hJ hA hZ hP hD hS hq [0, 1, 2, 3, 4, 5, 6] rfl (by decide) gl_AS_74 gi_AS_fillUses gsel_AS_fillUses gini_AS gc_AS_fillUses hd_AS_fillUses ⟨rfl, rfl, Nat.le_of_ble_eq_true rfl, Nat.le_of_ble_eq_true rfl⟩ rfl rfl hl.1 rfl rfl (Nat.le_of_ble_eq_true rfl) d_AS_assemble_126 ⟨Nat.zero_le _, Nat.zero_le _⟩
          clear hq
          refine jk_v hr hA hP hD hS [0, 1, 2, 3, 4, 5, 6] [7, 8] (WR := [(l0, .inr (3, [.ref l9, .int lat, .int len, .long llb, .int lor, .int laa, .int lbb, .int lnu, .long lwa])), (l1, .inl (E.2.1 0, 3000, .inl ltx))]) rfl rfl (by decide) (by decide) [2, 3, 4, 5, 6, 7, 8, 0, 1] (WF := [(s0, .inr (4, [.ref s1, .int shr, .int sft_6, .int sfl_6, .ref l0, .ref s2, .ref s3, .int slc, .ref s4, .ref s5, .ref s6, .int suc])), (s1, .inl (E.2.1 0, 1024, .inl swd_6)), (s2, .inl (E.2.1 1, 100, .inr (.inl slb))), (s3, .inl (E.2.1 0, 100, .inl sla)), (s4, .inl (E.2.1 1, 1024, .inr (.inl sul))), (s5, .inl (E.2.1 0, 1024, .inl sua)), (s6, .inl (E.2.1 0, 1024, .inl suL)), (l0, .inr (3, [.ref l9, .int lat, .int len, .long llb, .int lor, .int laa, .int lbb, .int lnu, .long lwa])), (l1, .inl (E.2.1 0, 3000, .inl ltx))]) rfl (by decide) ?_
          clear hP hD hS
          intro H locs hP hD hS
          clear hr
          have h := Option.some.inj h
          have e_0 := (Prod.mk.inj h).1
          have h := (Prod.mk.inj h).2
          have e_1 := (Prod.mk.inj h).1
          have h := (Prod.mk.inj h).2
          have e_2 := (Prod.mk.inj h).1
          have h := (Prod.mk.inj h).2
          have e_3 := (Prod.mk.inj h).1
          have h := (Prod.mk.inj h).2
          have e_4 := (Prod.mk.inj h).1
          have h := (Prod.mk.inj h).2
          have e_5 := (Prod.mk.inj h).1
          have h := (Prod.mk.inj h).2
          have e_6 := (Prod.mk.inj h).1
          have h := (Prod.mk.inj h).2
          have e_7 := (Prod.mk.inj h).1
          have h := (Prod.mk.inj h).2
          have e_8 := (Prod.mk.inj h).1
          have h := (Prod.mk.inj h).2
          have e_9 := (Prod.mk.inj h).1
          have h := (Prod.mk.inj h).2
          have e_10 := (Prod.mk.inj h).1
          have h := (Prod.mk.inj h).2
          have e_11 := (Prod.mk.inj h).1
          have h := (Prod.mk.inj h).2
          have e_12 := (Prod.mk.inj h).1
          have h := (Prod.mk.inj h).2
          have e_13 := (Prod.mk.inj h).1
          have h := (Prod.mk.inj h).2
          have e_14 := (Prod.mk.inj h).1
          have h := (Prod.mk.inj h).2
          have e_15 := (Prod.mk.inj h).1
          have h := (Prod.mk.inj h).2
          have e_16 := (Prod.mk.inj h).1
          have h := (Prod.mk.inj h).2
          have e_17 := (Prod.mk.inj h).1
          have h := (Prod.mk.inj h).2
          have e_18 := (Prod.mk.inj h).1
          have h := (Prod.mk.inj h).2
          rw [← e_0, ← e_1, ← e_2, ← e_3, ← e_4, ← e_5, ← e_6, ← e_7, ← e_8, ← e_9, ← e_10, ← e_11, ← e_12, ← e_13, ← e_14, ← e_15, ← e_16, ← e_17, ← e_18, ← h]
          exact jr_v J hS hP hD d_AS_assemble_129
      · replace h := g_f c_4 h
        refine lv_aload_n J.1 J.2.1 d_AS_assemble_43 rfl (lv_at hl 0 rfl) ?_
        refine jg J hJ hP 0 rfl rfl i_AS 2 (by decide) gf_AS_42 rfl d_AS_assemble_44 ?_
        refine lv_if_ne (tgt := 118) J.1 J.2.1 d_AS_assemble_47 (by decide) (fun c_7 => ?_) (fun c_7 => ?_)
        · replace h := g_f c_7 h
          refine lv_aload_n J.1 J.2.1 d_AS_assemble_118 rfl (lv_at hl 0 rfl) ?_
          refine jg J hJ hP 0 rfl rfl i_AS 2 (by decide) gf_AS_42 rfl d_AS_assemble_119 ?_
          refine lv_if_ne (tgt := 129) J.1 J.2.1 d_AS_assemble_122 (by decide) (fun c_8 => ?_) (fun c_8 => ?_)
          · replace h := g_f c_8 h
            have h := Option.some.inj h
            have e_0 := (Prod.mk.inj h).1
            have h := (Prod.mk.inj h).2
            have e_1 := (Prod.mk.inj h).1
            have h := (Prod.mk.inj h).2
            have e_2 := (Prod.mk.inj h).1
            have h := (Prod.mk.inj h).2
            have e_3 := (Prod.mk.inj h).1
            have h := (Prod.mk.inj h).2
            have e_4 := (Prod.mk.inj h).1
            have h := (Prod.mk.inj h).2
            have e_5 := (Prod.mk.inj h).1
            have h := (Prod.mk.inj h).2
            have e_6 := (Prod.mk.inj h).1
            have h := (Prod.mk.inj h).2
            have e_7 := (Prod.mk.inj h).1
            have h := (Prod.mk.inj h).2
            have e_8 := (Prod.mk.inj h).1
            have h := (Prod.mk.inj h).2
            have e_9 := (Prod.mk.inj h).1
            have h := (Prod.mk.inj h).2
            have e_10 := (Prod.mk.inj h).1
            have h := (Prod.mk.inj h).2
            have e_11 := (Prod.mk.inj h).1
            have h := (Prod.mk.inj h).2
            have e_12 := (Prod.mk.inj h).1
            have h := (Prod.mk.inj h).2
            have e_13 := (Prod.mk.inj h).1
            have h := (Prod.mk.inj h).2
            have e_14 := (Prod.mk.inj h).1
            have h := (Prod.mk.inj h).2
            have e_15 := (Prod.mk.inj h).1
            have h := (Prod.mk.inj h).2
            have e_16 := (Prod.mk.inj h).1
            have h := (Prod.mk.inj h).2
            have e_17 := (Prod.mk.inj h).1
            have h := (Prod.mk.inj h).2
            have e_18 := (Prod.mk.inj h).1
            have h := (Prod.mk.inj h).2
            rw [← e_0, ← e_1, ← e_2, ← e_3, ← e_4, ← e_5, ← e_6, ← e_7, ← e_8, ← e_9, ← e_10, ← e_11, ← e_12, ← e_13, ← e_14, ← e_15, ← e_16, ← e_17, ← e_18, ← h]
            exact jr_v J hS hP hD d_AS_assemble_129
          · replace h := g_t c_8 h
            refine lv_aload_n J.1 J.2.1 d_AS_assemble_125 rfl (lv_at hl 0 rfl) ?_
            replace h := g_bd h
            obtain ⟨⟨sft_9, sfl_9, swd_9⟩, q_9, h⟩ := h
            try dsimp only at h
            have hq := ct_AS_fillUses l E l0 s0 s1 s2 s3 s4 s5 s6 H.size shr sft sfl slc suc swd slb sla sul sua suL sft_9 sfl_9 swd_9 q_9
            have hr := jrunV (p := p) (e := e) (below := below) (R := ({ frames := 8, cells := 0, slots := 0, locals := 176 })) (cells := 0) (slots := 0) (As := []) (rest := []) J hJ hA hZ hP hD hS hq [0, 1, 2, 3, 4, 5, 6] rfl (by decide) gl_AS_74 gi_AS_fillUses gsel_AS_fillUses gini_AS gc_AS_fillUses hd_AS_fillUses ⟨rfl, rfl, Nat.le_of_ble_eq_true rfl, Nat.le_of_ble_eq_true rfl⟩ rfl rfl hl.1 rfl rfl (Nat.le_of_ble_eq_true rfl) d_AS_assemble_126 ⟨Nat.zero_le _, Nat.zero_le _⟩
            clear hq
            refine jk_v hr hA hP hD hS [0, 1, 2, 3, 4, 5, 6] [7, 8] (WR := [(l0, .inr (3, [.ref l9, .int lat, .int len, .long llb, .int lor, .int laa, .int lbb, .int lnu, .long lwa])), (l1, .inl (E.2.1 0, 3000, .inl ltx))]) rfl rfl (by decide) (by decide) [2, 3, 4, 5, 6, 7, 8, 0, 1] (WF := [(s0, .inr (4, [.ref s1, .int shr, .int sft_9, .int sfl_9, .ref l0, .ref s2, .ref s3, .int slc, .ref s4, .ref s5, .ref s6, .int suc])), (s1, .inl (E.2.1 0, 1024, .inl swd_9)), (s2, .inl (E.2.1 1, 100, .inr (.inl slb))), (s3, .inl (E.2.1 0, 100, .inl sla)), (s4, .inl (E.2.1 1, 1024, .inr (.inl sul))), (s5, .inl (E.2.1 0, 1024, .inl sua)), (s6, .inl (E.2.1 0, 1024, .inl suL)), (l0, .inr (3, [.ref l9, .int lat, .int len, .long llb, .int lor, .int laa, .int lbb, .int lnu, .long lwa])), (l1, .inl (E.2.1 0, 3000, .inl ltx))]) rfl (by decide) ?_
            clear hP hD hS
            intro H locs hP hD hS
            clear hr
            have h := Option.some.inj h
            have e_0 := (Prod.mk.inj h).1
            have h := (Prod.mk.inj h).2
            have e_1 := (Prod.mk.inj h).1
            have h := (Prod.mk.inj h).2
            have e_2 := (Prod.mk.inj h).1
            have h := (Prod.mk.inj h).2
            have e_3 := (Prod.mk.inj h).1
            have h := (Prod.mk.inj h).2
            have e_4 := (Prod.mk.inj h).1
            have h := (Prod.mk.inj h).2
            have e_5 := (Prod.mk.inj h).1
            have h := (Prod.mk.inj h).2
            have e_6 := (Prod.mk.inj h).1
            have h := (Prod.mk.inj h).2
            have e_7 := (Prod.mk.inj h).1
            have h := (Prod.mk.inj h).2
            have e_8 := (Prod.mk.inj h).1
            have h := (Prod.mk.inj h).2
            have e_9 := (Prod.mk.inj h).1
            have h := (Prod.mk.inj h).2
            have e_10 := (Prod.mk.inj h).1
            have h := (Prod.mk.inj h).2
            have e_11 := (Prod.mk.inj h).1
            have h := (Prod.mk.inj h).2
            have e_12 := (Prod.mk.inj h).1
            have h := (Prod.mk.inj h).2
            have e_13 := (Prod.mk.inj h).1
            have h := (Prod.mk.inj h).2
            have e_14 := (Prod.mk.inj h).1
            have h := (Prod.mk.inj h).2
            have e_15 := (Prod.mk.inj h).1
            have h := (Prod.mk.inj h).2
            have e_16 := (Prod.mk.inj h).1
            have h := (Prod.mk.inj h).2
            have e_17 := (Prod.mk.inj h).1
            have h := (Prod.mk.inj h).2
            have e_18 := (Prod.mk.inj h).1
            have h := (Prod.mk.inj h).2
            rw [← e_0, ← e_1, ← e_2, ← e_3, ← e_4, ← e_5, ← e_6, ← e_7, ← e_8, ← e_9, ← e_10, ← e_11, ← e_12, ← e_13, ← e_14, ← e_15, ← e_16, ← e_17, ← e_18, ← h]
            exact jr_v J hS hP hD d_AS_assemble_129
        · replace h := g_t c_7 h
          refine lv_aload_n J.1 J.2.1 d_AS_assemble_50 rfl (lv_at hl 1 rfl) ?_
          refine lv_iload J.1 J.2.1 d_AS_assemble_51 (lv_at hl 4 rfl) ?_
          refine lv_iload_n J.1 J.2.1 d_AS_assemble_53 rfl (lv_at hl 2 rfl) ?_
          replace h := g_bd h
          obtain ⟨r_10, q_10, h⟩ := h
          have hq := ct_AS_lineEnd l E l1 H.size ltx x4 x2 r_10 q_10
          have hr := jrunS (p := p) (e := e) (below := below) (R := ({ frames := 8, cells := 0, slots := 0, locals := 176 })) (cells := 0) (slots := 0) (As := [.ref l1, .int x4, .int x2]) (rest := []) J hJ hA hZ hP hD hS hq [8] rfl (by decide) gl_AS_54 gs_AS_lineEnd gini_AS gc_AS_lineEnd hd_AS_lineEnd ⟨rfl, rfl, Nat.le_of_ble_eq_true rfl, Nat.le_of_ble_eq_true rfl⟩ hl.1 rfl rfl (Nat.le_of_ble_eq_true rfl) d_AS_assemble_54 ⟨Nat.zero_le _, Nat.zero_le _⟩
          clear hq
          refine jk_i hr hA hP hD hS [8] [0, 1, 2, 3, 4, 5, 6, 7] (WR := [(s0, .inr (4, [.ref s1, .int shr, .int sft, .int sfl, .ref l0, .ref s2, .ref s3, .int slc, .ref s4, .ref s5, .ref s6, .int suc])), (s1, .inl (E.2.1 0, 1024, .inl swd)), (s2, .inl (E.2.1 1, 100, .inr (.inl slb))), (s3, .inl (E.2.1 0, 100, .inl sla)), (s4, .inl (E.2.1 1, 1024, .inr (.inl sul))), (s5, .inl (E.2.1 0, 1024, .inl sua)), (s6, .inl (E.2.1 0, 1024, .inl suL)), (l0, .inr (3, [.ref l9, .int lat, .int len, .long llb, .int lor, .int laa, .int lbb, .int lnu, .long lwa]))]) rfl rfl (by decide) (by decide) [0, 1, 2, 3, 4, 5, 6, 7, 8] (WF := [(s0, .inr (4, [.ref s1, .int shr, .int sft, .int sfl, .ref l0, .ref s2, .ref s3, .int slc, .ref s4, .ref s5, .ref s6, .int suc])), (s1, .inl (E.2.1 0, 1024, .inl swd)), (s2, .inl (E.2.1 1, 100, .inr (.inl slb))), (s3, .inl (E.2.1 0, 100, .inl sla)), (s4, .inl (E.2.1 1, 1024, .inr (.inl sul))), (s5, .inl (E.2.1 0, 1024, .inl sua)), (s6, .inl (E.2.1 0, 1024, .inl suL)), (l0, .inr (3, [.ref l9, .int lat, .int len, .long llb, .int lor, .int laa, .int lbb, .int lnu, .long lwa])), (l1, .inl (E.2.1 0, 3000, .inl ltx))]) rfl (by decide) ?_
          clear hP hD hS
          intro H locs hP hD hS
          clear hr
          refine lv_istore (lv' := [(6, .int r_10), (0, .ref s0), (1, .ref l1), (2, .int x2), (3, .int x3), (4, .int x4), (5, .int x5)]) J.1 J.2.1 d_AS_assemble_57 hl (by decide) rfl ?_
          clear hl
          intro ls hl
          refine lv_aload_n J.1 J.2.1 d_AS_assemble_59 rfl (lv_at hl 1 rfl) ?_
          refine jg J hJ hP 0 rfl rfl i_AS 4 (by decide) gf_AS_18 rfl d_AS_assemble_60 ?_
          refine lv_aload_n J.1 J.2.1 d_AS_assemble_63 rfl (lv_at hl 2 rfl) ?_
          refine lv_iload J.1 J.2.1 d_AS_assemble_64 (lv_at hl 5 rfl) ?_
          refine lv_iload J.1 J.2.1 d_AS_assemble_66 (lv_at hl 0 rfl) ?_
          replace h := g_bd h
          obtain ⟨⟨r_11, l9_11, lat_11, len_11, llb_11, lor_11, laa_11, lbb_11, lnu_11, lwa_11⟩, q_11, h⟩ := h
          try dsimp only at h
          have hq := ct_LI_isReadFrom l E l0 l1 w8 H.size wN l9 lat len llb lor laa lbb lnu lwa ltx x4 r_10 r_11 l9_11 lat_11 len_11 llb_11 lor_11 laa_11 lbb_11 lnu_11 lwa_11 hzC hzN htN q_11
          have hr := jrunV (p := p) (e := e) (below := below) (R := ({ frames := 8, cells := 0, slots := 0, locals := 176 })) (cells := 0) (slots := 0) (As := [.ref l1, .int x4, .int r_10]) (rest := []) J hJ hA hZ hP hD hS hq [7, 8] rfl (by decide) gl_AS_58 gi_LI_isReadFrom gsel_LI_isReadFrom gini_LI gc_LI_isReadFrom hd_LI_isReadFrom ⟨rfl, rfl, Nat.le_of_ble_eq_true rfl, Nat.le_of_ble_eq_true rfl⟩ rfl rfl hl.1 rfl rfl (Nat.le_of_ble_eq_true rfl) d_AS_assemble_68 ⟨Nat.zero_le _, Nat.zero_le _⟩
          clear hq
          refine jk_i hr hA hP hD hS [7, 8] [0, 1, 2, 3, 4, 5, 6] (WR := [(s0, .inr (4, [.ref s1, .int shr, .int sft, .int sfl, .ref l0, .ref s2, .ref s3, .int slc, .ref s4, .ref s5, .ref s6, .int suc])), (s1, .inl (E.2.1 0, 1024, .inl swd)), (s2, .inl (E.2.1 1, 100, .inr (.inl slb))), (s3, .inl (E.2.1 0, 100, .inl sla)), (s4, .inl (E.2.1 1, 1024, .inr (.inl sul))), (s5, .inl (E.2.1 0, 1024, .inl sua)), (s6, .inl (E.2.1 0, 1024, .inl suL))]) rfl rfl (by decide) (by decide) [0, 1, 2, 3, 4, 5, 6, 7, 8] (WF := [(s0, .inr (4, [.ref s1, .int shr, .int sft, .int sfl, .ref l0, .ref s2, .ref s3, .int slc, .ref s4, .ref s5, .ref s6, .int suc])), (s1, .inl (E.2.1 0, 1024, .inl swd)), (s2, .inl (E.2.1 1, 100, .inr (.inl slb))), (s3, .inl (E.2.1 0, 100, .inl sla)), (s4, .inl (E.2.1 1, 1024, .inr (.inl sul))), (s5, .inl (E.2.1 0, 1024, .inl sua)), (s6, .inl (E.2.1 0, 1024, .inl suL)), (l0, .inr (3, [.ref l9_11, .int lat_11, .int len_11, .long llb_11, .int lor_11, .int laa_11, .int lbb_11, .int lnu_11, .long lwa_11])), (l1, .inl (E.2.1 0, 3000, .inl ltx))]) rfl (by decide) ?_
          clear hP hD hS
          intro H locs hP hD hS
          clear hr
          refine lv_istore (lv' := [(7, .int r_11), (6, .int r_10), (0, .ref s0), (1, .ref l1), (2, .int x2), (3, .int x3), (4, .int x4), (5, .int x5)]) J.1 J.2.1 d_AS_assemble_71 hl (by decide) rfl ?_
          clear hl
          intro ls hl
          refine lv_aload_n J.1 J.2.1 d_AS_assemble_73 rfl (lv_at hl 2 rfl) ?_
          refine lv_iload J.1 J.2.1 d_AS_assemble_74 (lv_at hl 0 rfl) ?_
          refine lv_if_eq (tgt := 87) J.1 J.2.1 d_AS_assemble_76 (by decide) (fun c_12 => ?_) (fun c_12 => ?_)
          · replace h := g_t c_12 h
            refine lv_iconst (v := 1) J.1 J.2.1 d_AS_assemble_87 (by decide) ?_
            refine lv_iload J.1 J.2.1 d_AS_assemble_88 (lv_at hl 7 rfl) ?_
            replace h := g_bd h
            obtain ⟨⟨sft_13, sfl_13⟩, q_13, h⟩ := h
            try dsimp only at h
            have hq := ct_AS_tellFault l E l0 s0 s1 s2 s3 s4 s5 s6 H.size shr sft sfl slc suc 1 x5 sft_13 sfl_13 q_13
            have hr := jrunV (p := p) (e := e) (below := below) (R := ({ frames := 8, cells := 0, slots := 0, locals := 176 })) (cells := 0) (slots := 0) (As := [.int 1, .int x5]) (rest := []) J hJ hA hZ hP hD hS hq [0] rfl (by decide) gl_AS_66 gi_AS_tellFault gsel_AS_tellFault gini_AS gc_AS_tellFault hd_AS_tellFault ⟨rfl, rfl, Nat.le_of_ble_eq_true rfl, Nat.le_of_ble_eq_true rfl⟩ rfl rfl hl.1 rfl rfl (Nat.le_of_ble_eq_true rfl) d_AS_assemble_90 ⟨Nat.zero_le _, Nat.zero_le _⟩
            clear hq
            refine jk_v hr hA hP hD hS [0] [1, 2, 3, 4, 5, 6, 7, 8] (WR := [(s1, .inl (E.2.1 0, 1024, .inl swd)), (s2, .inl (E.2.1 1, 100, .inr (.inl slb))), (s3, .inl (E.2.1 0, 100, .inl sla)), (s4, .inl (E.2.1 1, 1024, .inr (.inl sul))), (s5, .inl (E.2.1 0, 1024, .inl sua)), (s6, .inl (E.2.1 0, 1024, .inl suL)), (l0, .inr (3, [.ref l9_11, .int lat_11, .int len_11, .long llb_11, .int lor_11, .int laa_11, .int lbb_11, .int lnu_11, .long lwa_11])), (l1, .inl (E.2.1 0, 3000, .inl ltx))]) rfl rfl (by decide) (by decide) [8, 0, 1, 2, 3, 4, 5, 6, 7] (WF := [(s0, .inr (4, [.ref s1, .int shr, .int sft_13, .int sfl_13, .ref l0, .ref s2, .ref s3, .int slc, .ref s4, .ref s5, .ref s6, .int suc])), (s1, .inl (E.2.1 0, 1024, .inl swd)), (s2, .inl (E.2.1 1, 100, .inr (.inl slb))), (s3, .inl (E.2.1 0, 100, .inl sla)), (s4, .inl (E.2.1 1, 1024, .inr (.inl sul))), (s5, .inl (E.2.1 0, 1024, .inl sua)), (s6, .inl (E.2.1 0, 1024, .inl suL)), (l0, .inr (3, [.ref l9_11, .int lat_11, .int len_11, .long llb_11, .int lor_11, .int laa_11, .int lbb_11, .int lnu_11, .long lwa_11])), (l1, .inl (E.2.1 0, 3000, .inl ltx))]) rfl (by decide) ?_
            clear hP hD hS
            intro H locs hP hD hS
            clear hr
            refine lv_aload_n J.1 J.2.1 d_AS_assemble_93 rfl (lv_at hl 2 rfl) ?_
            refine jg J hJ hP 0 rfl rfl i_AS 2 (by decide) gf_AS_42 rfl d_AS_assemble_94 ?_
            refine lv_if_ne (tgt := 106) J.1 J.2.1 d_AS_assemble_97 (by decide) (fun c_14 => ?_) (fun c_14 => ?_)
            · replace h := g_f c_14 h
              refine lv_iload J.1 J.2.1 d_AS_assemble_106 (lv_at hl 1 rfl) ?_
              refine lv_iconst (v := 1) J.1 J.2.1 d_AS_assemble_108 (by decide) ?_
              refine lv_iadd J.1 J.2.1 d_AS_assemble_109 ?_
              refine lv_istore (lv' := [(4, .int (r_10 + 1)), (7, .int r_11), (6, .int r_10), (0, .ref s0), (1, .ref l1), (2, .int x2), (3, .int x3), (5, .int x5)]) J.1 J.2.1 d_AS_assemble_110 hl (by decide) rfl ?_
              clear hl
              intro ls hl
              refine lv_iinc (v := (x5 + 1)) (lv' := [(5, .int (x5 + 1)), (4, .int (r_10 + 1)), (7, .int r_11), (6, .int r_10), (0, .ref s0), (1, .ref l1), (2, .int x2), (3, .int x3)]) J.1 J.2.1 d_AS_assemble_112 hl (k := 7) rfl rfl (by decide) rfl ?_
              clear hl
              intro ls hl
              refine lv_goto (tgt := 31) J.1 J.2.1 d_AS_assemble_115 (by decide) ?_
              exact ih _ _ _ _ _ _ _ _ _ _ _ _ _ _ _ _ _ _ _ _ _ _ _ _ _ _ _ _ h hP hD hS (lv_sub hl [4, 5, 6, 7, 1, 0] rfl)
            · replace h := g_t c_14 h
              refine lv_aload_n J.1 J.2.1 d_AS_assemble_100 rfl (lv_at hl 2 rfl) ?_
              refine lv_iload J.1 J.2.1 d_AS_assemble_101 (lv_at hl 7 rfl) ?_
              replace h := g_bd h
              obtain ⟨⟨shr_15, slc_15, suc_15, swd_15, slb_15, sla_15, sul_15, sua_15, suL_15⟩, q_15, h⟩ := h
              try dsimp only at h
              have hq := ct_AS_placeLine l E l0 s0 s1 s2 s3 s4 s5 s6 H.size shr sft_13 sfl_13 slc suc swd slb sla sul sua suL l9_11 lat_11 len_11 llb_11 lor_11 laa_11 lbb_11 lnu_11 lwa_11 x5 shr_15 slc_15 suc_15 swd_15 slb_15 sla_15 sul_15 sua_15 suL_15 q_15
              have hr := jrunV (p := p) (e := e) (below := below) (R := ({ frames := 8, cells := 0, slots := 0, locals := 176 })) (cells := 0) (slots := 0) (As := [.int x5]) (rest := []) J hJ hA hZ hP hD hS hq [0, 1, 2, 3, 4, 5, 6, 7] rfl (by decide) gl_AS_70 gi_AS_placeLine gsel_AS_placeLine gini_AS gc_AS_placeLine hd_AS_placeLine ⟨rfl, rfl, Nat.le_of_ble_eq_true rfl, Nat.le_of_ble_eq_true rfl⟩ rfl rfl hl.1 rfl rfl (Nat.le_of_ble_eq_true rfl) d_AS_assemble_103 ⟨Nat.zero_le _, Nat.zero_le _⟩
              clear hq
              refine jk_v hr hA hP hD hS [0, 1, 2, 3, 4, 5, 6, 7] [8] (WR := [(l1, .inl (E.2.1 0, 3000, .inl ltx))]) rfl rfl (by decide) (by decide) [1, 2, 3, 4, 5, 6, 7, 8, 0] (WF := [(s0, .inr (4, [.ref s1, .int shr_15, .int sft_13, .int sfl_13, .ref l0, .ref s2, .ref s3, .int slc_15, .ref s4, .ref s5, .ref s6, .int suc_15])), (s1, .inl (E.2.1 0, 1024, .inl swd_15)), (s2, .inl (E.2.1 1, 100, .inr (.inl slb_15))), (s3, .inl (E.2.1 0, 100, .inl sla_15)), (s4, .inl (E.2.1 1, 1024, .inr (.inl sul_15))), (s5, .inl (E.2.1 0, 1024, .inl sua_15)), (s6, .inl (E.2.1 0, 1024, .inl suL_15)), (l0, .inr (3, [.ref l9_11, .int lat_11, .int len_11, .long llb_11, .int lor_11, .int laa_11, .int lbb_11, .int lnu_11, .long lwa_11])), (l1, .inl (E.2.1 0, 3000, .inl ltx))]) rfl (by decide) ?_
              clear hP hD hS
              intro H locs hP hD hS
              clear hr
              refine lv_iload J.1 J.2.1 d_AS_assemble_106 (lv_at hl 1 rfl) ?_
              refine lv_iconst (v := 1) J.1 J.2.1 d_AS_assemble_108 (by decide) ?_
              refine lv_iadd J.1 J.2.1 d_AS_assemble_109 ?_
              refine lv_istore (lv' := [(4, .int (r_10 + 1)), (7, .int r_11), (6, .int r_10), (0, .ref s0), (1, .ref l1), (2, .int x2), (3, .int x3), (5, .int x5)]) J.1 J.2.1 d_AS_assemble_110 hl (by decide) rfl ?_
              clear hl
              intro ls hl
              refine lv_iinc (v := (x5 + 1)) (lv' := [(5, .int (x5 + 1)), (4, .int (r_10 + 1)), (7, .int r_11), (6, .int r_10), (0, .ref s0), (1, .ref l1), (2, .int x2), (3, .int x3)]) J.1 J.2.1 d_AS_assemble_112 hl (k := 7) rfl rfl (by decide) rfl ?_
              clear hl
              intro ls hl
              refine lv_goto (tgt := 31) J.1 J.2.1 d_AS_assemble_115 (by decide) ?_
              exact ih _ _ _ _ _ _ _ _ _ _ _ _ _ _ _ _ _ _ _ _ _ _ _ _ _ _ _ _ h hP hD hS (lv_sub hl [4, 5, 6, 7, 1, 0] rfl)
          · replace h := g_f c_12 h
            refine lv_aload_n J.1 J.2.1 d_AS_assemble_79 rfl (lv_at hl 2 rfl) ?_
            refine lv_iload_n J.1 J.2.1 d_AS_assemble_80 rfl (lv_at hl 5 rfl) ?_
            replace h := g_bd h
            obtain ⟨r_16, q_16, h⟩ := h
            have hq := ct_AS_faultOfLine l E l0 s0 s1 s2 s3 s4 s5 s6 H.size shr sft sfl slc suc slb sla l9_11 lat_11 len_11 llb_11 lor_11 laa_11 lbb_11 lnu_11 lwa_11 x3 r_16 q_16
            have hr := jrunV (p := p) (e := e) (below := below) (R := ({ frames := 8, cells := 0, slots := 0, locals := 176 })) (cells := 0) (slots := 0) (As := [.int x3]) (rest := [.ref s0]) J hJ hA hZ hP hD hS hq [0, 2, 3, 7] rfl (by decide) gl_AS_62 gi_AS_faultOfLine gsel_AS_faultOfLine gini_AS gc_AS_faultOfLine hd_AS_faultOfLine ⟨rfl, rfl, Nat.le_of_ble_eq_true rfl, Nat.le_of_ble_eq_true rfl⟩ rfl rfl hl.1 rfl rfl (Nat.le_of_ble_eq_true rfl) d_AS_assemble_81 ⟨Nat.zero_le _, Nat.zero_le _⟩
            clear hq
            refine jk_i hr hA hP hD hS [0, 2, 3, 7] [1, 4, 5, 6, 8] (WR := [(s1, .inl (E.2.1 0, 1024, .inl swd)), (s4, .inl (E.2.1 1, 1024, .inr (.inl sul))), (s5, .inl (E.2.1 0, 1024, .inl sua)), (s6, .inl (E.2.1 0, 1024, .inl suL)), (l1, .inl (E.2.1 0, 3000, .inl ltx))]) rfl rfl (by decide) (by decide) [5, 0, 6, 7, 1, 2, 3, 8, 4] (WF := [(s0, .inr (4, [.ref s1, .int shr, .int sft, .int sfl, .ref l0, .ref s2, .ref s3, .int slc, .ref s4, .ref s5, .ref s6, .int suc])), (s1, .inl (E.2.1 0, 1024, .inl swd)), (s2, .inl (E.2.1 1, 100, .inr (.inl slb))), (s3, .inl (E.2.1 0, 100, .inl sla)), (s4, .inl (E.2.1 1, 1024, .inr (.inl sul))), (s5, .inl (E.2.1 0, 1024, .inl sua)), (s6, .inl (E.2.1 0, 1024, .inl suL)), (l0, .inr (3, [.ref l9_11, .int lat_11, .int len_11, .long llb_11, .int lor_11, .int laa_11, .int lbb_11, .int lnu_11, .long lwa_11])), (l1, .inl (E.2.1 0, 3000, .inl ltx))]) rfl (by decide) ?_
            clear hP hD hS
            intro H locs hP hD hS
            clear hr
            refine lv_goto (tgt := 88) J.1 J.2.1 d_AS_assemble_84 (by decide) ?_
            refine lv_iload J.1 J.2.1 d_AS_assemble_88 (lv_at hl 7 rfl) ?_
            replace h := g_bd h
            obtain ⟨⟨sft_17, sfl_17⟩, q_17, h⟩ := h
            try dsimp only at h
            have hq := ct_AS_tellFault l E l0 s0 s1 s2 s3 s4 s5 s6 H.size shr sft sfl slc suc r_16 x5 sft_17 sfl_17 q_17
            have hr := jrunV (p := p) (e := e) (below := below) (R := ({ frames := 8, cells := 0, slots := 0, locals := 176 })) (cells := 0) (slots := 0) (As := [.int r_16, .int x5]) (rest := []) J hJ hA hZ hP hD hS hq [0] rfl (by decide) gl_AS_66 gi_AS_tellFault gsel_AS_tellFault gini_AS gc_AS_tellFault hd_AS_tellFault ⟨rfl, rfl, Nat.le_of_ble_eq_true rfl, Nat.le_of_ble_eq_true rfl⟩ rfl rfl hl.1 rfl rfl (Nat.le_of_ble_eq_true rfl) d_AS_assemble_90 ⟨Nat.zero_le _, Nat.zero_le _⟩
            clear hq
            refine jk_v hr hA hP hD hS [0] [1, 2, 3, 4, 5, 6, 7, 8] (WR := [(s1, .inl (E.2.1 0, 1024, .inl swd)), (s2, .inl (E.2.1 1, 100, .inr (.inl slb))), (s3, .inl (E.2.1 0, 100, .inl sla)), (s4, .inl (E.2.1 1, 1024, .inr (.inl sul))), (s5, .inl (E.2.1 0, 1024, .inl sua)), (s6, .inl (E.2.1 0, 1024, .inl suL)), (l0, .inr (3, [.ref l9_11, .int lat_11, .int len_11, .long llb_11, .int lor_11, .int laa_11, .int lbb_11, .int lnu_11, .long lwa_11])), (l1, .inl (E.2.1 0, 3000, .inl ltx))]) rfl rfl (by decide) (by decide) [8, 0, 1, 2, 3, 4, 5, 6, 7] (WF := [(s0, .inr (4, [.ref s1, .int shr, .int sft_17, .int sfl_17, .ref l0, .ref s2, .ref s3, .int slc, .ref s4, .ref s5, .ref s6, .int suc])), (s1, .inl (E.2.1 0, 1024, .inl swd)), (s2, .inl (E.2.1 1, 100, .inr (.inl slb))), (s3, .inl (E.2.1 0, 100, .inl sla)), (s4, .inl (E.2.1 1, 1024, .inr (.inl sul))), (s5, .inl (E.2.1 0, 1024, .inl sua)), (s6, .inl (E.2.1 0, 1024, .inl suL)), (l0, .inr (3, [.ref l9_11, .int lat_11, .int len_11, .long llb_11, .int lor_11, .int laa_11, .int lbb_11, .int lnu_11, .long lwa_11])), (l1, .inl (E.2.1 0, 3000, .inl ltx))]) rfl (by decide) ?_
            clear hP hD hS
            intro H locs hP hD hS
            clear hr
            refine lv_aload_n J.1 J.2.1 d_AS_assemble_93 rfl (lv_at hl 2 rfl) ?_
            refine jg J hJ hP 0 rfl rfl i_AS 2 (by decide) gf_AS_42 rfl d_AS_assemble_94 ?_
            refine lv_if_ne (tgt := 106) J.1 J.2.1 d_AS_assemble_97 (by decide) (fun c_18 => ?_) (fun c_18 => ?_)
            · replace h := g_f c_18 h
              refine lv_iload J.1 J.2.1 d_AS_assemble_106 (lv_at hl 1 rfl) ?_
              refine lv_iconst (v := 1) J.1 J.2.1 d_AS_assemble_108 (by decide) ?_
              refine lv_iadd J.1 J.2.1 d_AS_assemble_109 ?_
              refine lv_istore (lv' := [(4, .int (r_10 + 1)), (7, .int r_11), (6, .int r_10), (0, .ref s0), (1, .ref l1), (2, .int x2), (3, .int x3), (5, .int x5)]) J.1 J.2.1 d_AS_assemble_110 hl (by decide) rfl ?_
              clear hl
              intro ls hl
              refine lv_iinc (v := (x5 + 1)) (lv' := [(5, .int (x5 + 1)), (4, .int (r_10 + 1)), (7, .int r_11), (6, .int r_10), (0, .ref s0), (1, .ref l1), (2, .int x2), (3, .int x3)]) J.1 J.2.1 d_AS_assemble_112 hl (k := 7) rfl rfl (by decide) rfl ?_
              clear hl
              intro ls hl
              refine lv_goto (tgt := 31) J.1 J.2.1 d_AS_assemble_115 (by decide) ?_
              exact ih _ _ _ _ _ _ _ _ _ _ _ _ _ _ _ _ _ _ _ _ _ _ _ _ _ _ _ _ h hP hD hS (lv_sub hl [4, 5, 6, 7, 1, 0] rfl)
            · replace h := g_t c_18 h
              refine lv_aload_n J.1 J.2.1 d_AS_assemble_100 rfl (lv_at hl 2 rfl) ?_
              refine lv_iload J.1 J.2.1 d_AS_assemble_101 (lv_at hl 7 rfl) ?_
              replace h := g_bd h
              obtain ⟨⟨shr_19, slc_19, suc_19, swd_19, slb_19, sla_19, sul_19, sua_19, suL_19⟩, q_19, h⟩ := h
              try dsimp only at h
              have hq := ct_AS_placeLine l E l0 s0 s1 s2 s3 s4 s5 s6 H.size shr sft_17 sfl_17 slc suc swd slb sla sul sua suL l9_11 lat_11 len_11 llb_11 lor_11 laa_11 lbb_11 lnu_11 lwa_11 x5 shr_19 slc_19 suc_19 swd_19 slb_19 sla_19 sul_19 sua_19 suL_19 q_19
              have hr := jrunV (p := p) (e := e) (below := below) (R := ({ frames := 8, cells := 0, slots := 0, locals := 176 })) (cells := 0) (slots := 0) (As := [.int x5]) (rest := []) J hJ hA hZ hP hD hS hq [0, 1, 2, 3, 4, 5, 6, 7] rfl (by decide) gl_AS_70 gi_AS_placeLine gsel_AS_placeLine gini_AS gc_AS_placeLine hd_AS_placeLine ⟨rfl, rfl, Nat.le_of_ble_eq_true rfl, Nat.le_of_ble_eq_true rfl⟩ rfl rfl hl.1 rfl rfl (Nat.le_of_ble_eq_true rfl) d_AS_assemble_103 ⟨Nat.zero_le _, Nat.zero_le _⟩
              clear hq
              refine jk_v hr hA hP hD hS [0, 1, 2, 3, 4, 5, 6, 7] [8] (WR := [(l1, .inl (E.2.1 0, 3000, .inl ltx))]) rfl rfl (by decide) (by decide) [1, 2, 3, 4, 5, 6, 7, 8, 0] (WF := [(s0, .inr (4, [.ref s1, .int shr_19, .int sft_17, .int sfl_17, .ref l0, .ref s2, .ref s3, .int slc_19, .ref s4, .ref s5, .ref s6, .int suc_19])), (s1, .inl (E.2.1 0, 1024, .inl swd_19)), (s2, .inl (E.2.1 1, 100, .inr (.inl slb_19))), (s3, .inl (E.2.1 0, 100, .inl sla_19)), (s4, .inl (E.2.1 1, 1024, .inr (.inl sul_19))), (s5, .inl (E.2.1 0, 1024, .inl sua_19)), (s6, .inl (E.2.1 0, 1024, .inl suL_19)), (l0, .inr (3, [.ref l9_11, .int lat_11, .int len_11, .long llb_11, .int lor_11, .int laa_11, .int lbb_11, .int lnu_11, .long lwa_11])), (l1, .inl (E.2.1 0, 3000, .inl ltx))]) rfl (by decide) ?_
              clear hP hD hS
              intro H locs hP hD hS
              clear hr
              refine lv_iload J.1 J.2.1 d_AS_assemble_106 (lv_at hl 1 rfl) ?_
              refine lv_iconst (v := 1) J.1 J.2.1 d_AS_assemble_108 (by decide) ?_
              refine lv_iadd J.1 J.2.1 d_AS_assemble_109 ?_
              refine lv_istore (lv' := [(4, .int (r_10 + 1)), (7, .int r_11), (6, .int r_10), (0, .ref s0), (1, .ref l1), (2, .int x2), (3, .int x3), (5, .int x5)]) J.1 J.2.1 d_AS_assemble_110 hl (by decide) rfl ?_
              clear hl
              intro ls hl
              refine lv_iinc (v := (x5 + 1)) (lv' := [(5, .int (x5 + 1)), (4, .int (r_10 + 1)), (7, .int r_11), (6, .int r_10), (0, .ref s0), (1, .ref l1), (2, .int x2), (3, .int x3)]) J.1 J.2.1 d_AS_assemble_112 hl (k := 7) rfl rfl (by decide) rfl ?_
              clear hl
              intro ls hl
              refine lv_goto (tgt := 31) J.1 J.2.1 d_AS_assemble_115 (by decide) ?_
              exact ih _ _ _ _ _ _ _ _ _ _ _ _ _ _ _ _ _ _ _ _ _ _ _ _ _ _ _ _ h hP hD hS (lv_sub hl [4, 5, 6, 7, 1, 0] rfl)
set_option maxHeartbeats 4000000 in
set_option maxRecDepth 100000 in
theorem ct_AS_assemble (l : Launch) (E : jz_E) (l0 l1 s0 s1 s2 s3 s4 s5 s6 w8 : Nat) (sz : Nat) (wN : Nat → Int32) (shr : Int32) (sft : Int32) (sfl : Int32) (slc : Int32) (suc : Int32) (swd : Nat → Int32) (slb : Nat → Int64) (sla : Nat → Int32) (sul : Nat → Int64) (sua : Nat → Int32) (suL : Nat → Int32) (l9 : Nat) (lat : Int32) (len : Int32) (llb : Int64) (lor : Int32) (laa : Int32) (lbb : Int32) (lnu : Int32) (lwa : Int64) (ltx : Nat → Int32) (p2 : Int32) (p3 : Int32) (o_shr : Int32) (o_sft : Int32) (o_sfl : Int32) (o_slc : Int32) (o_suc : Int32) (o_swd : Nat → Int32) (o_slb : Nat → Int64) (o_sla : Nat → Int32) (o_sul : Nat → Int64) (o_sua : Nat → Int32) (o_suL : Nat → Int32) (o_l9 : Nat) (o_lat : Int32) (o_len : Int32) (o_llb : Int64) (o_lor : Int32) (o_laa : Int32) (o_lbb : Int32) (o_lnu : Int32) (o_lwa : Int64)  (hzC : ("java/lang/String", "COMPACT_STRINGS", "Z", Value.int 1) ∈ E.2.2.1) (hzN : (R_LI, "WANTS", "[I", Value.ref w8) ∈ E.2.2.1) (htN : (w8, 28, wN) ∈ E.2.2.2.1) (h : f_AS_assemble l1 wN swd slb sla sul sua suL l9 lat len llb lor laa lbb lnu lwa ltx p2 p3 = some (o_shr, o_sft, o_sfl, o_slc, o_suc, o_swd, o_slb, o_sla, o_sul, o_sua, o_suL, o_l9, o_lat, o_len, o_llb, o_lor, o_laa, o_lbb, o_lnu, o_lwa)) : CTv l E y_AS_assemble c_AS_assemble 8 none ({ frames := 8, cells := 0, slots := 0, locals := 176 }) [.ref s0, .ref l1, .int p2, .int p3] [(s0, .inr (4, [.ref s1, .int shr, .int sft, .int sfl, .ref l0, .ref s2, .ref s3, .int slc, .ref s4, .ref s5, .ref s6, .int suc])), (s1, .inl (E.2.1 0, 1024, .inl swd)), (s2, .inl (E.2.1 1, 100, .inr (.inl slb))), (s3, .inl (E.2.1 0, 100, .inl sla)), (s4, .inl (E.2.1 1, 1024, .inr (.inl sul))), (s5, .inl (E.2.1 0, 1024, .inl sua)), (s6, .inl (E.2.1 0, 1024, .inl suL)), (l0, .inr (3, [.ref l9, .int lat, .int len, .long llb, .int lor, .int laa, .int lbb, .int lnu, .long lwa])), (l1, .inl (E.2.1 0, 3000, .inl ltx))] sz [(s0, .inr (4, [.ref s1, .int o_shr, .int o_sft, .int o_sfl, .ref l0, .ref s2, .ref s3, .int o_slc, .ref s4, .ref s5, .ref s6, .int o_suc])), (s1, .inl (E.2.1 0, 1024, .inl o_swd)), (s2, .inl (E.2.1 1, 100, .inr (.inl o_slb))), (s3, .inl (E.2.1 0, 100, .inl o_sla)), (s4, .inl (E.2.1 1, 1024, .inr (.inl o_sul))), (s5, .inl (E.2.1 0, 1024, .inl o_sua)), (s6, .inl (E.2.1 0, 1024, .inl o_suL)), (l0, .inr (3, [.ref o_l9, .int o_lat, .int o_len, .long o_llb, .int o_lor, .int o_laa, .int o_lbb, .int o_lnu, .long o_lwa])), (l1, .inl (E.2.1 0, 3000, .inl ltx))] := by
  refine jw (by decide +kernel) (Nat.le_of_ble_eq_true rfl) ?_
  intro p e s m below meth c A ls J hJ hAe hsz hA hZ hP hD hl
  rw [← hAe]
  have hS : va_S A s.heap s.heap [] := va_S.rf
  have hl : lv_has ls 8 [(0, .ref s0), (1, .ref l1), (2, .int p2), (3, .int p3)] := hl
  unfold f_AS_assemble at h
  refine lv_aload_n J.1 J.2.1 d_AS_assemble_0 rfl (lv_at hl 0 rfl) ?_
  refine lv_iconst (v := 0) J.1 J.2.1 d_AS_assemble_1 (by decide) ?_
  refine jp J hJ hP hD hS 0 rfl rfl i_AS t_AS t_AS_ok n_AS 1 (by decide) gf_AS_38 rfl rfl rfl (Nat.le_of_ble_eq_true rfl) d_AS_assemble_2 (WS' := [(s0, .inr (4, [.ref s1, .int 0, .int sft, .int sfl, .ref l0, .ref s2, .ref s3, .int slc, .ref s4, .ref s5, .ref s6, .int suc])), (s1, .inl (E.2.1 0, 1024, .inl swd)), (s2, .inl (E.2.1 1, 100, .inr (.inl slb))), (s3, .inl (E.2.1 0, 100, .inl sla)), (s4, .inl (E.2.1 1, 1024, .inr (.inl sul))), (s5, .inl (E.2.1 0, 1024, .inl sua)), (s6, .inl (E.2.1 0, 1024, .inl suL)), (l0, .inr (3, [.ref l9, .int lat, .int len, .long llb, .int lor, .int laa, .int lbb, .int lnu, .long lwa])), (l1, .inl (E.2.1 0, 3000, .inl ltx))]) rfl ?_
  clear hP hD hS
  intro H locs hP hD hS
  refine lv_aload_n J.1 J.2.1 d_AS_assemble_5 rfl (lv_at hl 0 rfl) ?_
  refine lv_iconst (v := 0) J.1 J.2.1 d_AS_assemble_6 (by decide) ?_
  refine jp J hJ hP hD hS 0 rfl rfl i_AS t_AS t_AS_ok n_AS 2 (by decide) gf_AS_42 rfl rfl rfl (Nat.le_of_ble_eq_true rfl) d_AS_assemble_7 (WS' := [(s0, .inr (4, [.ref s1, .int 0, .int 0, .int sfl, .ref l0, .ref s2, .ref s3, .int slc, .ref s4, .ref s5, .ref s6, .int suc])), (s1, .inl (E.2.1 0, 1024, .inl swd)), (s2, .inl (E.2.1 1, 100, .inr (.inl slb))), (s3, .inl (E.2.1 0, 100, .inl sla)), (s4, .inl (E.2.1 1, 1024, .inr (.inl sul))), (s5, .inl (E.2.1 0, 1024, .inl sua)), (s6, .inl (E.2.1 0, 1024, .inl suL)), (l0, .inr (3, [.ref l9, .int lat, .int len, .long llb, .int lor, .int laa, .int lbb, .int lnu, .long lwa])), (l1, .inl (E.2.1 0, 3000, .inl ltx))]) rfl ?_
  clear hP hD hS
  intro H locs hP hD hS
  refine lv_aload_n J.1 J.2.1 d_AS_assemble_10 rfl (lv_at hl 0 rfl) ?_
  refine lv_iconst (v := 0) J.1 J.2.1 d_AS_assemble_11 (by decide) ?_
  refine jp J hJ hP hD hS 0 rfl rfl i_AS t_AS t_AS_ok n_AS 3 (by decide) gf_AS_45 rfl rfl rfl (Nat.le_of_ble_eq_true rfl) d_AS_assemble_12 (WS' := [(s0, .inr (4, [.ref s1, .int 0, .int 0, .int 0, .ref l0, .ref s2, .ref s3, .int slc, .ref s4, .ref s5, .ref s6, .int suc])), (s1, .inl (E.2.1 0, 1024, .inl swd)), (s2, .inl (E.2.1 1, 100, .inr (.inl slb))), (s3, .inl (E.2.1 0, 100, .inl sla)), (s4, .inl (E.2.1 1, 1024, .inr (.inl sul))), (s5, .inl (E.2.1 0, 1024, .inl sua)), (s6, .inl (E.2.1 0, 1024, .inl suL)), (l0, .inr (3, [.ref l9, .int lat, .int len, .long llb, .int lor, .int laa, .int lbb, .int lnu, .long lwa])), (l1, .inl (E.2.1 0, 3000, .inl ltx))]) rfl ?_
  clear hP hD hS
  intro H locs hP hD hS
  refine lv_aload_n J.1 J.2.1 d_AS_assemble_15 rfl (lv_at hl 0 rfl) ?_
  refine lv_iconst (v := 0) J.1 J.2.1 d_AS_assemble_16 (by decide) ?_
  refine jp J hJ hP hD hS 0 rfl rfl i_AS t_AS t_AS_ok n_AS 7 (by decide) gf_AS_48 rfl rfl rfl (Nat.le_of_ble_eq_true rfl) d_AS_assemble_17 (WS' := [(s0, .inr (4, [.ref s1, .int 0, .int 0, .int 0, .ref l0, .ref s2, .ref s3, .int 0, .ref s4, .ref s5, .ref s6, .int suc])), (s1, .inl (E.2.1 0, 1024, .inl swd)), (s2, .inl (E.2.1 1, 100, .inr (.inl slb))), (s3, .inl (E.2.1 0, 100, .inl sla)), (s4, .inl (E.2.1 1, 1024, .inr (.inl sul))), (s5, .inl (E.2.1 0, 1024, .inl sua)), (s6, .inl (E.2.1 0, 1024, .inl suL)), (l0, .inr (3, [.ref l9, .int lat, .int len, .long llb, .int lor, .int laa, .int lbb, .int lnu, .long lwa])), (l1, .inl (E.2.1 0, 3000, .inl ltx))]) rfl ?_
  clear hP hD hS
  intro H locs hP hD hS
  refine lv_aload_n J.1 J.2.1 d_AS_assemble_20 rfl (lv_at hl 0 rfl) ?_
  refine lv_iconst (v := 0) J.1 J.2.1 d_AS_assemble_21 (by decide) ?_
  refine jp J hJ hP hD hS 0 rfl rfl i_AS t_AS t_AS_ok n_AS 11 (by decide) gf_AS_51 rfl rfl rfl (Nat.le_of_ble_eq_true rfl) d_AS_assemble_22 (WS' := [(s0, .inr (4, [.ref s1, .int 0, .int 0, .int 0, .ref l0, .ref s2, .ref s3, .int 0, .ref s4, .ref s5, .ref s6, .int 0])), (s1, .inl (E.2.1 0, 1024, .inl swd)), (s2, .inl (E.2.1 1, 100, .inr (.inl slb))), (s3, .inl (E.2.1 0, 100, .inl sla)), (s4, .inl (E.2.1 1, 1024, .inr (.inl sul))), (s5, .inl (E.2.1 0, 1024, .inl sua)), (s6, .inl (E.2.1 0, 1024, .inl suL)), (l0, .inr (3, [.ref l9, .int lat, .int len, .long llb, .int lor, .int laa, .int lbb, .int lnu, .long lwa])), (l1, .inl (E.2.1 0, 3000, .inl ltx))]) rfl ?_
  clear hP hD hS
  intro H locs hP hD hS
  refine lv_iconst (v := 0) J.1 J.2.1 d_AS_assemble_25 (by decide) ?_
  refine lv_istore (lv' := [(4, .int 0), (0, .ref s0), (1, .ref l1), (2, .int p2), (3, .int p3)]) J.1 J.2.1 d_AS_assemble_26 hl (by decide) rfl ?_
  clear hl
  intro ls hl
  refine lv_iconst (v := 1) J.1 J.2.1 d_AS_assemble_28 (by decide) ?_
  refine lv_istore (lv' := [(5, .int 1), (4, .int 0), (0, .ref s0), (1, .ref l1), (2, .int p2), (3, .int p3)]) J.1 J.2.1 d_AS_assemble_29 hl (by decide) rfl ?_
  clear hl
  intro ls hl
  exact kb_AS_assemble_31 J hJ hA hZ hzC hzN htN _ _ _ _ _ _ _ _ _ _ _ _ _ _ _ _ _ _ _ _ _ _ _ _ _ _ _ _ _ h hP hD hS (lv_sub hl [2, 3, 4, 5, 1, 0] rfl)
