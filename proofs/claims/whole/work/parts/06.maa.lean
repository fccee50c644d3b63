theorem hd_JA_fill : y_JA_fill.cls ≠ "java/lang/invoke/MethodHandle" ∧ y_JA_fill.cls ≠ "java/lang/invoke/VarHandle" ∧ (parseMethodDescriptor y_JA_fill.desc).map (fun d => d.parameters.length) = some 2 := by decide +kernel
def b_JA_fill_5 : Nat → Nat → (Nat → Int32) → Int32 → Int32 → Int32 → Option ((Nat → Int32))
  | 0, _, _, _, _, _ => none
  | n + 1, wn, wf, x1, x2, x3 => (if x3 ≤ x2 then (some wf) else (if ck x2 wn then b_JA_fill_5 n wn (upd wf x2.toNatClampNeg x1) x1 (x2 + 1) x3 else none))
def f_JA_fill (wn : Nat) (wf : Nat → Int32) (p1 : Int32) : Option ((Nat → Int32)) := b_JA_fill_5 65536 wn wf p1 0 (Int32.ofNat wn)
set_option maxHeartbeats 4000000 in
set_option maxRecDepth 100000 in
theorem kb_JA_fill_5 {p : Program} {l : Launch} {e : Env} {s : State} {m : MethodId} {below : List Frame} {meth : Method} {c : Code} {A : Nat → Prop} {E : jz_E} {w0 : Nat} {p1 : Int32} {o_wf : Nat → Int32} (J : JC p s m ([.ref w0, .int p1] : List Value).toArray meth c c_JA_fill 4 none y_JA_fill.cls) (hJ : jE E s) (hA : ∀ q : Nat, s.heap.size ≤ q → A q) (hZ : jz_ok E A s s.heap) : ∀ (n : Nat) (wn : Nat) (wf : Nat → Int32) (x1 : Int32) (x2 : Int32) (x3 : Int32) (H : Heap) (locs : List Loc) (ls : Array Slot), b_JA_fill_5 n wn wf x1 x2 x3 = some o_wf → va_P E.1 classes [(w0, .inl (E.2.1 0, wn, .inl wf))] H → va_D A [(w0, .inl (E.2.1 0, wn, .inl wf))] → va_S A s.heap H locs → lv_has ls 4 [(0, .ref w0), (1, .int x1), (2, .int x2), (3, .int x3)] → W p l e ({ frames := 0, cells := 0, slots := 0, locals := 0 }) s m ([.ref w0, .int p1] : List Value).toArray below meth c H locs 0 0 (MQ below (va_Qv (fun (u : va_W) => u = [(w0, .inl (E.2.1 0, wn, .inl o_wf))]) (BW E A) A) ([.ref w0, .int p1] : List Value).toArray s 0 0 A) (F0 m 5 ls []) := by
  intro n
  induction n with
  | zero => intro wn wf x1 x2 x3 H locs ls h; cases h
  | succ n ih =>
    intro wn wf x1 x2 x3 H locs ls h hP hD hS hl
    rw [b_JA_fill_5] at h
    refine lv_iload_n J.1 J.2.1 d_JA_fill_5 rfl (lv_at hl 2 rfl) ?_
    refine lv_iload_n J.1 J.2.1 d_JA_fill_6 rfl (lv_at hl 3 rfl) ?_
    refine lv_icmp_ge (tgt := 20) J.1 J.2.1 d_JA_fill_7 (by decide) (fun c_1 => ?_) (fun c_1 => ?_)
    · replace h := g_t c_1 h
      have h := Option.some.inj h
      rw [← h]
      exact jr_v J hS hP hD d_JA_fill_20
    · replace h := g_f c_1 h
      refine lv_aload_n J.1 J.2.1 d_JA_fill_10 rfl (lv_at hl 0 rfl) ?_
      refine lv_iload_n J.1 J.2.1 d_JA_fill_11 rfl (lv_at hl 2 rfl) ?_
      refine lv_iload_n J.1 J.2.1 d_JA_fill_12 rfl (lv_at hl 1 rfl) ?_
      replace h := g_ck h
      obtain ⟨k_2, h⟩ := h
      refine jsi J hJ hP hD hS 0 rfl k_2 d_JA_fill_13 (WS' := [(w0, .inl (E.2.1 0, wn, .inl (upd wf x2.toNatClampNeg x1)))]) rfl ?_
      clear hP hD hS
      intro H locs hP hD hS
      refine lv_iinc (v := (x2 + 1)) (lv' := [(2, .int (x2 + 1)), (0, .ref w0), (1, .int x1), (3, .int x3)]) J.1 J.2.1 d_JA_fill_14 hl (k := 2) rfl rfl (by decide) rfl ?_
      clear hl
      intro ls hl
      refine lv_goto (tgt := 5) J.1 J.2.1 d_JA_fill_17 (by decide) ?_
      exact ih _ _ _ _ _ _ _ _ h hP hD hS (lv_sub hl [1, 2, 0, 3] rfl)
set_option maxHeartbeats 4000000 in
set_option maxRecDepth 100000 in
theorem ct_JA_fill (l : Launch) (E : jz_E) (w0 : Nat) (sz : Nat) (wn : Nat) (wf : Nat → Int32) (p1 : Int32) (o_wf : Nat → Int32)  (h : f_JA_fill wn wf p1 = some o_wf) : CTv l E y_JA_fill c_JA_fill 4 none ({ frames := 0, cells := 0, slots := 0, locals := 0 }) [.ref w0, .int p1] [(w0, .inl (E.2.1 0, wn, .inl wf))] sz [(w0, .inl (E.2.1 0, wn, .inl o_wf))] := by
  refine jw (by decide +kernel) (Nat.le_of_ble_eq_true rfl) ?_
  intro p e s m below meth c A ls J hJ hAe hsz hA hZ hP hD hl
  rw [← hAe]
  have hS : va_S A s.heap s.heap [] := va_S.rf
  have hl : lv_has ls 4 [(0, .ref w0), (1, .int p1)] := hl
  unfold f_JA_fill at h
  refine lv_iconst (v := 0) J.1 J.2.1 d_JA_fill_0 (by decide) ?_
  refine lv_istore_n (lv' := [(2, .int 0), (0, .ref w0), (1, .int p1)]) J.1 J.2.1 d_JA_fill_1 rfl hl (by decide) rfl ?_
  clear hl
  intro ls hl
  refine lv_aload_n J.1 J.2.1 d_JA_fill_2 rfl (lv_at hl 1 rfl) ?_
  refine va_alen J.1 J.2.1 hJ.1 hP 0 0 rfl rfl (v := (Int32.ofNat wn)) rfl d_JA_fill_3 ?_
  refine lv_istore_n (lv' := [(3, .int (Int32.ofNat wn)), (2, .int 0), (0, .ref w0), (1, .int p1)]) J.1 J.2.1 d_JA_fill_4 rfl hl (by decide) rfl ?_
  clear hl
  intro ls hl
  exact kb_JA_fill_5 J hJ hA hZ _ _ _ _ _ _ _ _ _ h hP hD hS (lv_sub hl [2, 3, 1, 0] rfl)

theorem hd_MA_shifted : y_MA_shifted.cls ≠ "java/lang/invoke/MethodHandle" ∧ y_MA_shifted.cls ≠ "java/lang/invoke/VarHandle" ∧ (parseMethodDescriptor y_MA_shifted.desc).map (fun d => d.parameters.length) = some 2 := by decide +kernel
def f_MA_shifted (p0 : Int32) (p1 : Int32) : Option (Int32) := (if (p1 &&& 16) = (0 : Int32) then (some ((p0 <<< ((p1 &&& 15) &&& 31)) &&& 65535)) else (some (p0 >>> ((p1 &&& 15) &&& 31))))
set_option maxHeartbeats 4000000 in
set_option maxRecDepth 100000 in
theorem ct_MA_shifted (l : Launch) (E : jz_E)  (sz : Nat) (p0 : Int32) (p1 : Int32) (o_r : Int32)  (h : f_MA_shifted p0 p1 = some o_r) : CTi l E y_MA_shifted c_MA_shifted 3 (some .int) ({ frames := 0, cells := 0, slots := 0, locals := 0 }) [.int p0, .int p1] [] sz o_r [] := by
  refine jw (by decide +kernel) (Nat.le_of_ble_eq_true rfl) ?_
  intro p e s m below meth c A ls J hJ hAe hsz hA hZ hP hD hl
  rw [← hAe]
  have hS : va_S A s.heap s.heap [] := va_S.rf
  have hl : lv_has ls 3 [(0, .int p0), (1, .int p1)] := hl
  unfold f_MA_shifted at h
  refine lv_iload_n J.1 J.2.1 d_MA_shifted_0 rfl (lv_at hl 1 rfl) ?_
  refine lv_bipush (v := 15) J.1 J.2.1 d_MA_shifted_1 (by decide) ?_
  refine lv_iand J.1 J.2.1 d_MA_shifted_3 ?_
  refine lv_istore_n (lv' := [(2, .int (p1 &&& 15)), (0, .int p0), (1, .int p1)]) J.1 J.2.1 d_MA_shifted_4 rfl hl (by decide) rfl ?_
  clear hl
  intro ls hl
  refine lv_iload_n J.1 J.2.1 d_MA_shifted_5 rfl (lv_at hl 2 rfl) ?_
  refine lv_bipush (v := 16) J.1 J.2.1 d_MA_shifted_6 (by decide) ?_
  refine lv_iand J.1 J.2.1 d_MA_shifted_8 ?_
  refine lv_if_ne (tgt := 21) J.1 J.2.1 d_MA_shifted_9 (by decide) (fun c_1 => ?_) (fun c_1 => ?_)
  · replace h := g_f c_1 h
    refine lv_iload_n J.1 J.2.1 d_MA_shifted_21 rfl (lv_at hl 1 rfl) ?_
    refine lv_iload_n J.1 J.2.1 d_MA_shifted_22 rfl (lv_at hl 0 rfl) ?_
    refine lv_ishr J.1 J.2.1 d_MA_shifted_23 ?_
    have h := Option.some.inj h
    rw [← h]
    exact jr_i J hS hP hD rfl d_MA_shifted_24
  · replace h := g_t c_1 h
    refine lv_iload_n J.1 J.2.1 d_MA_shifted_12 rfl (lv_at hl 1 rfl) ?_
    refine lv_iload_n J.1 J.2.1 d_MA_shifted_13 rfl (lv_at hl 0 rfl) ?_
    refine lv_ishl J.1 J.2.1 d_MA_shifted_14 ?_
    refine lv_ldc (v := 65535) J.1 J.2.1 J.2.2.2.2.1 (J.2.2.2.2.2.1 _ gk_MA_70) d_MA_shifted_15 ?_
    refine lv_iand J.1 J.2.1 d_MA_shifted_17 ?_
    refine lv_goto (tgt := 24) J.1 J.2.1 d_MA_shifted_18 (by decide) ?_
    have h := Option.some.inj h
    rw [← h]
    exact jr_i J hS hP hD rfl d_MA_shifted_24

theorem hd_MA_wordsWanted : y_MA_wordsWanted.cls ≠ "java/lang/invoke/MethodHandle" ∧ y_MA_wordsWanted.cls ≠ "java/lang/invoke/VarHandle" ∧ (parseMethodDescriptor y_MA_wordsWanted.desc).map (fun d => d.parameters.length) = some 1 := by decide +kernel
def f_MA_wordsWanted (p0 : Int32) : Option (Int32) := (if (p0) = 17 then (some 4) else (if (p0) = 18 then (some 4) else (if (p0) = 23 then (some 16) else (if (p0) = 24 then (some 16) else (some 0)))))
set_option maxHeartbeats 4000000 in
set_option maxRecDepth 100000 in
theorem ct_MA_wordsWanted (l : Launch) (E : jz_E)  (sz : Nat) (p0 : Int32) (o_r : Int32)  (h : f_MA_wordsWanted p0 = some o_r) : CTi l E y_MA_wordsWanted c_MA_wordsWanted 1 (some .int) ({ frames := 0, cells := 0, slots := 0, locals := 0 }) [.int p0] [] sz o_r [] := by
  refine jw (by decide +kernel) (Nat.le_of_ble_eq_true rfl) ?_
  intro p e s m below meth c A ls J hJ hAe hsz hA hZ hP hD hl
  rw [← hAe]
  have hS : va_S A s.heap s.heap [] := va_S.rf
  have hl : lv_has ls 1 [(0, .int p0)] := hl
  unfold f_MA_wordsWanted at h
  refine lv_iload_n J.1 J.2.1 d_MA_wordsWanted_0 rfl (lv_at hl 0 rfl) ?_
  by_cases c_1 : (p0) = 17
  · replace h := g_t c_1 h
    refine lv_tableIn (off := 47) (tgt := 48) J.1 J.2.1 d_MA_wordsWanted_1 (by rw [c_1]; decide) (by rw [c_1]; decide) (by rw [c_1]; rfl) (by decide) ?_
    refine lv_iconst (v := 4) J.1 J.2.1 d_MA_wordsWanted_48 (by decide) ?_
    have h := Option.some.inj h
    rw [← h]
    exact jr_i J hS hP hD rfl d_MA_wordsWanted_49
  replace h := g_f c_1 h
  by_cases c_2 : (p0) = 18
  · replace h := g_t c_2 h
    refine lv_tableIn (off := 47) (tgt := 48) J.1 J.2.1 d_MA_wordsWanted_1 (by rw [c_2]; decide) (by rw [c_2]; decide) (by rw [c_2]; rfl) (by decide) ?_
    refine lv_iconst (v := 4) J.1 J.2.1 d_MA_wordsWanted_48 (by decide) ?_
    have h := Option.some.inj h
    rw [← h]
    exact jr_i J hS hP hD rfl d_MA_wordsWanted_49
  replace h := g_f c_2 h
  by_cases c_3 : (p0) = 23
  · replace h := g_t c_3 h
    refine lv_tableIn (off := 49) (tgt := 50) J.1 J.2.1 d_MA_wordsWanted_1 (by rw [c_3]; decide) (by rw [c_3]; decide) (by rw [c_3]; rfl) (by decide) ?_
    refine lv_bipush (v := 16) J.1 J.2.1 d_MA_wordsWanted_50 (by decide) ?_
    have h := Option.some.inj h
    rw [← h]
    exact jr_i J hS hP hD rfl d_MA_wordsWanted_52
  replace h := g_f c_3 h
  by_cases c_4 : (p0) = 24
  · replace h := g_t c_4 h
    refine lv_tableIn (off := 49) (tgt := 50) J.1 J.2.1 d_MA_wordsWanted_1 (by rw [c_4]; decide) (by rw [c_4]; decide) (by rw [c_4]; rfl) (by decide) ?_
    refine lv_bipush (v := 16) J.1 J.2.1 d_MA_wordsWanted_50 (by decide) ?_
    have h := Option.some.inj h
    rw [← h]
    exact jr_i J hS hP hD rfl d_MA_wordsWanted_52
  replace h := g_f c_4 h
  refine jt_df (tgt := 53) J.1 J.2.1 d_MA_wordsWanted_1 (jt_or (lo := 17) (hi := 24) (fun q q2 => by
      have e0 := lv_neT c_1 (a := 17) (by decide)
      have e1 := lv_neT c_2 (a := 18) (by decide)
      have e2 := lv_neT c_3 (a := 23) (by decide)
      have e3 := lv_neT c_4 (a := 24) (by decide)
      have e : (p0).toInt = 19 ∨ (p0).toInt = 20 ∨ (p0).toInt = 21 ∨ (p0).toInt = 22 := by omega
      rcases e with e | e | e | e <;> rw [e] <;> rfl)) (by decide) ?_
  refine lv_iconst (v := 0) J.1 J.2.1 d_MA_wordsWanted_53 (by decide) ?_
  have h := Option.some.inj h
  rw [← h]
  exact jr_i J hS hP hD rfl d_MA_wordsWanted_54

theorem hd_MA_register : y_MA_register.cls ≠ "java/lang/invoke/MethodHandle" ∧ y_MA_register.cls ≠ "java/lang/invoke/VarHandle" ∧ (parseMethodDescriptor y_MA_register.desc).map (fun d => d.parameters.length) = some 1 := by decide +kernel
def f_MA_register (vreg : Nat → Int32) (p1 : Int32) : Option (Int32) := (if p1 < (0 : Int32) then (some (-1)) else (if p1 < (8 : Int32) then (if ck p1 8 then (some (vreg p1.toNatClampNeg)) else none) else (some (-1))))
set_option maxHeartbeats 4000000 in
set_option maxRecDepth 100000 in
theorem ct_MA_register (l : Launch) (E : jz_E) (a0 a1 a2 a3 k0 : Nat) (sz : Nat) (vsz : Int32) (vmd : Int32) (vpc : Int32) (vba : Int32) (vbo : Int32) (vre : Int32) (vti : Int32) (vro : Int32) (vha : Int32) (vreg : Nat → Int32) (p1 : Int32) (o_r : Int32)  (h : f_MA_register vreg p1 = some o_r) : CTi l E y_MA_register c_MA_register 2 (some .int) ({ frames := 0, cells := 0, slots := 0, locals := 0 }) [.ref a0, .int p1] [(a0, .inr (0, [.ref a1, .ref a2, .ref a3, .ref k0, .int vsz, .int vmd, .int vpc, .int vba, .int vbo, .int vre, .int vti, .int vro, .int vha])), (a2, .inl (E.2.1 0, 8, .inl vreg))] sz o_r [(a0, .inr (0, [.ref a1, .ref a2, .ref a3, .ref k0, .int vsz, .int vmd, .int vpc, .int vba, .int vbo, .int vre, .int vti, .int vro, .int vha])), (a2, .inl (E.2.1 0, 8, .inl vreg))] := by
  refine jw (by decide +kernel) (Nat.le_of_ble_eq_true rfl) ?_
  intro p e s m below meth c A ls J hJ hAe hsz hA hZ hP hD hl
  rw [← hAe]
  have hS : va_S A s.heap s.heap [] := va_S.rf
  have hl : lv_has ls 2 [(0, .ref a0), (1, .int p1)] := hl
  unfold f_MA_register at h
  refine lv_iload_n J.1 J.2.1 d_MA_register_0 rfl (lv_at hl 1 rfl) ?_
  refine lv_if_lt (tgt := 10) J.1 J.2.1 d_MA_register_1 (by decide) (fun c_1 => ?_) (fun c_1 => ?_)
  · replace h := g_t c_1 h
    refine lv_iconst (v := (-1)) J.1 J.2.1 d_MA_register_10 (by decide) ?_
    refine lv_goto (tgt := 20) J.1 J.2.1 d_MA_register_11 (by decide) ?_
    have h := Option.some.inj h
    rw [← h]
    exact jr_i J hS hP hD rfl d_MA_register_20
  · replace h := g_f c_1 h
    refine lv_iload_n J.1 J.2.1 d_MA_register_4 rfl (lv_at hl 1 rfl) ?_
    refine lv_bipush (v := 8) J.1 J.2.1 d_MA_register_5 (by decide) ?_
    refine lv_icmp_lt (tgt := 14) J.1 J.2.1 d_MA_register_7 (by decide) (fun c_2 => ?_) (fun c_2 => ?_)
    · replace h := g_t c_2 h
      refine lv_aload_n J.1 J.2.1 d_MA_register_14 rfl (lv_at hl 0 rfl) ?_
      refine jg J hJ hP 0 rfl rfl i_MA 1 (by decide) gf_MA_15 rfl d_MA_register_15 ?_
      refine lv_iload_n J.1 J.2.1 d_MA_register_18 rfl (lv_at hl 1 rfl) ?_
      replace h := g_ck h
      obtain ⟨k_3, h⟩ := h
      refine jai J hJ hP 1 rfl k_3 d_MA_register_19 ?_
      have h := Option.some.inj h
      rw [← h]
      exact jr_i J hS hP hD rfl d_MA_register_20
    · replace h := g_f c_2 h
      refine lv_iconst (v := (-1)) J.1 J.2.1 d_MA_register_10 (by decide) ?_
      refine lv_goto (tgt := 20) J.1 J.2.1 d_MA_register_11 (by decide) ?_
      have h := Option.some.inj h
      rw [← h]
      exact jr_i J hS hP hD rfl d_MA_register_20

theorem hd_MA_blockWord : y_MA_blockWord.cls ≠ "java/lang/invoke/MethodHandle" ∧ y_MA_blockWord.cls ≠ "java/lang/invoke/VarHandle" ∧ (parseMethodDescriptor y_MA_blockWord.desc).map (fun d => d.parameters.length) = some 2 := by decide +kernel
def f_MA_blockWord (vblk : Nat → Int32) (p1 : Int32) (p2 : Int32) : Option (Int32) := (if p1 < (0 : Int32) then (some (-1)) else (if (8 : Int32) ≤ p1 then (some (-1)) else (if p2 < (0 : Int32) then (some (-1)) else (if p2 < (16 : Int32) then (if ck ((p1 * 16) + p2) 128 then (some (vblk ((p1 * 16) + p2).toNatClampNeg)) else none) else (some (-1))))))
set_option maxHeartbeats 4000000 in
set_option maxRecDepth 100000 in
theorem ct_MA_blockWord (l : Launch) (E : jz_E) (a0 a1 a2 a3 k0 : Nat) (sz : Nat) (vsz : Int32) (vmd : Int32) (vpc : Int32) (vba : Int32) (vbo : Int32) (vre : Int32) (vti : Int32) (vro : Int32) (vha : Int32) (vblk : Nat → Int32) (p1 : Int32) (p2 : Int32) (o_r : Int32)  (h : f_MA_blockWord vblk p1 p2 = some o_r) : CTi l E y_MA_blockWord c_MA_blockWord 3 (some .int) ({ frames := 0, cells := 0, slots := 0, locals := 0 }) [.ref a0, .int p1, .int p2] [(a0, .inr (0, [.ref a1, .ref a2, .ref a3, .ref k0, .int vsz, .int vmd, .int vpc, .int vba, .int vbo, .int vre, .int vti, .int vro, .int vha])), (a3, .inl (E.2.1 0, 128, .inl vblk))] sz o_r [(a0, .inr (0, [.ref a1, .ref a2, .ref a3, .ref k0, .int vsz, .int vmd, .int vpc, .int vba, .int vbo, .int vre, .int vti, .int vro, .int vha])), (a3, .inl (E.2.1 0, 128, .inl vblk))] := by
  refine jw (by decide +kernel) (Nat.le_of_ble_eq_true rfl) ?_
  intro p e s m below meth c A ls J hJ hAe hsz hA hZ hP hD hl
  rw [← hAe]
  have hS : va_S A s.heap s.heap [] := va_S.rf
  have hl : lv_has ls 3 [(0, .ref a0), (1, .int p1), (2, .int p2)] := hl
  unfold f_MA_blockWord at h
  refine lv_iload_n J.1 J.2.1 d_MA_blockWord_0 rfl (lv_at hl 1 rfl) ?_
  refine lv_if_lt (tgt := 20) J.1 J.2.1 d_MA_blockWord_1 (by decide) (fun c_1 => ?_) (fun c_1 => ?_)
  · replace h := g_t c_1 h
    refine lv_iconst (v := (-1)) J.1 J.2.1 d_MA_blockWord_20 (by decide) ?_
    have h := Option.some.inj h
    rw [← h]
    exact jr_i J hS hP hD rfl d_MA_blockWord_21
  · replace h := g_f c_1 h
    refine lv_iload_n J.1 J.2.1 d_MA_blockWord_4 rfl (lv_at hl 1 rfl) ?_
    refine lv_bipush (v := 8) J.1 J.2.1 d_MA_blockWord_5 (by decide) ?_
    refine lv_icmp_ge (tgt := 20) J.1 J.2.1 d_MA_blockWord_7 (by decide) (fun c_2 => ?_) (fun c_2 => ?_)
    · replace h := g_t c_2 h
      refine lv_iconst (v := (-1)) J.1 J.2.1 d_MA_blockWord_20 (by decide) ?_
      have h := Option.some.inj h
      rw [← h]
      exact jr_i J hS hP hD rfl d_MA_blockWord_21
    · replace h := g_f c_2 h
      refine lv_iload_n J.1 J.2.1 d_MA_blockWord_10 rfl (lv_at hl 2 rfl) ?_
      refine lv_if_lt (tgt := 20) J.1 J.2.1 d_MA_blockWord_11 (by decide) (fun c_3 => ?_) (fun c_3 => ?_)
      · replace h := g_t c_3 h
        refine lv_iconst (v := (-1)) J.1 J.2.1 d_MA_blockWord_20 (by decide) ?_
        have h := Option.some.inj h
        rw [← h]
        exact jr_i J hS hP hD rfl d_MA_blockWord_21
      · replace h := g_f c_3 h
        refine lv_iload_n J.1 J.2.1 d_MA_blockWord_14 rfl (lv_at hl 2 rfl) ?_
        refine lv_bipush (v := 16) J.1 J.2.1 d_MA_blockWord_15 (by decide) ?_
        refine lv_icmp_lt (tgt := 22) J.1 J.2.1 d_MA_blockWord_17 (by decide) (fun c_4 => ?_) (fun c_4 => ?_)
        · replace h := g_t c_4 h
          refine lv_aload_n J.1 J.2.1 d_MA_blockWord_22 rfl (lv_at hl 0 rfl) ?_
          refine jg J hJ hP 0 rfl rfl i_MA 2 (by decide) gf_MA_18 rfl d_MA_blockWord_23 ?_
          refine lv_iload_n J.1 J.2.1 d_MA_blockWord_26 rfl (lv_at hl 1 rfl) ?_
          refine lv_bipush (v := 16) J.1 J.2.1 d_MA_blockWord_27 (by decide) ?_
          refine lv_imul J.1 J.2.1 d_MA_blockWord_29 ?_
          refine lv_iload_n J.1 J.2.1 d_MA_blockWord_30 rfl (lv_at hl 2 rfl) ?_
          refine lv_iadd J.1 J.2.1 d_MA_blockWord_31 ?_
          replace h := g_ck h
          obtain ⟨k_5, h⟩ := h
          refine jai J hJ hP 1 rfl k_5 d_MA_blockWord_32 ?_
          have h := Option.some.inj h
          rw [← h]
          exact jr_i J hS hP hD rfl d_MA_blockWord_33
        · replace h := g_f c_4 h
          refine lv_iconst (v := (-1)) J.1 J.2.1 d_MA_blockWord_20 (by decide) ?_
          have h := Option.some.inj h
          rw [← h]
          exact jr_i J hS hP hD rfl d_MA_blockWord_21

theorem hd_MA_keepStatus : y_MA_keepStatus.cls ≠ "java/lang/invoke/MethodHandle" ∧ y_MA_keepStatus.cls ≠ "java/lang/invoke/VarHandle" ∧ (parseMethodDescriptor y_MA_keepStatus.desc).map (fun d => d.parameters.length) = some 2 := by decide +kernel
def f_MA_keepStatus (vmd : Int32) (vba : Int32) (vbo : Int32) (vmem : Nat → Int32) (p1 : Int32) (p2 : Int32) : Option ((Nat → Int32)) := (if ck p1 1844 then (if ck (p1 + 1) 1844 then (if ck (p1 + 2) 1844 then (if ck (p1 + 3) 1844 then (some (upd (upd (upd (upd vmem p1.toNatClampNeg vmd) (p1 + 1).toNatClampNeg p2) (p1 + 2).toNatClampNeg vba) (p1 + 3).toNatClampNeg vbo)) else none) else none) else none) else none)
set_option maxHeartbeats 4000000 in
set_option maxRecDepth 100000 in
theorem ct_MA_keepStatus (l : Launch) (E : jz_E) (a0 a1 a2 a3 k0 : Nat) (sz : Nat) (vsz : Int32) (vmd : Int32) (vpc : Int32) (vba : Int32) (vbo : Int32) (vre : Int32) (vti : Int32) (vro : Int32) (vha : Int32) (vmem : Nat → Int32) (p1 : Int32) (p2 : Int32) (o_vmem : Nat → Int32)  (h : f_MA_keepStatus vmd vba vbo vmem p1 p2 = some o_vmem) : CTv l E y_MA_keepStatus c_MA_keepStatus 3 none ({ frames := 0, cells := 0, slots := 0, locals := 0 }) [.ref a0, .int p1, .int p2] [(a0, .inr (0, [.ref a1, .ref a2, .ref a3, .ref k0, .int vsz, .int vmd, .int vpc, .int vba, .int vbo, .int vre, .int vti, .int vro, .int vha])), (a1, .inl (E.2.1 0, 1844, .inl vmem))] sz [(a0, .inr (0, [.ref a1, .ref a2, .ref a3, .ref k0, .int vsz, .int vmd, .int vpc, .int vba, .int vbo, .int vre, .int vti, .int vro, .int vha])), (a1, .inl (E.2.1 0, 1844, .inl o_vmem))] := by
  refine jw (by decide +kernel) (Nat.le_of_ble_eq_true rfl) ?_
  intro p e s m below meth c A ls J hJ hAe hsz hA hZ hP hD hl
  rw [← hAe]
  have hS : va_S A s.heap s.heap [] := va_S.rf
  have hl : lv_has ls 3 [(0, .ref a0), (1, .int p1), (2, .int p2)] := hl
  unfold f_MA_keepStatus at h
  refine lv_aload_n J.1 J.2.1 d_MA_keepStatus_0 rfl (lv_at hl 0 rfl) ?_
  refine jg J hJ hP 0 rfl rfl i_MA 0 (by decide) gf_MA_9 rfl d_MA_keepStatus_1 ?_
  refine lv_iload_n J.1 J.2.1 d_MA_keepStatus_4 rfl (lv_at hl 1 rfl) ?_
  refine lv_aload_n J.1 J.2.1 d_MA_keepStatus_5 rfl (lv_at hl 0 rfl) ?_
  refine jg J hJ hP 0 rfl rfl i_MA 5 (by decide) gf_MA_41 rfl d_MA_keepStatus_6 ?_
  replace h := g_ck h
  obtain ⟨k_1, h⟩ := h
  refine jsi J hJ hP hD hS 1 rfl k_1 d_MA_keepStatus_9 (WS' := [(a0, .inr (0, [.ref a1, .ref a2, .ref a3, .ref k0, .int vsz, .int vmd, .int vpc, .int vba, .int vbo, .int vre, .int vti, .int vro, .int vha])), (a1, .inl (E.2.1 0, 1844, .inl (upd vmem p1.toNatClampNeg vmd)))]) rfl ?_
  clear hP hD hS
  intro H locs hP hD hS
  refine lv_aload_n J.1 J.2.1 d_MA_keepStatus_10 rfl (lv_at hl 0 rfl) ?_
  refine jg J hJ hP 0 rfl rfl i_MA 0 (by decide) gf_MA_9 rfl d_MA_keepStatus_11 ?_
  refine lv_iload_n J.1 J.2.1 d_MA_keepStatus_14 rfl (lv_at hl 1 rfl) ?_
  refine lv_iconst (v := 1) J.1 J.2.1 d_MA_keepStatus_15 (by decide) ?_
  refine lv_iadd J.1 J.2.1 d_MA_keepStatus_16 ?_
  refine lv_iload_n J.1 J.2.1 d_MA_keepStatus_17 rfl (lv_at hl 2 rfl) ?_
  replace h := g_ck h
  obtain ⟨k_2, h⟩ := h
  refine jsi J hJ hP hD hS 1 rfl k_2 d_MA_keepStatus_18 (WS' := [(a0, .inr (0, [.ref a1, .ref a2, .ref a3, .ref k0, .int vsz, .int vmd, .int vpc, .int vba, .int vbo, .int vre, .int vti, .int vro, .int vha])), (a1, .inl (E.2.1 0, 1844, .inl (upd (upd vmem p1.toNatClampNeg vmd) (p1 + 1).toNatClampNeg p2)))]) rfl ?_
  clear hP hD hS
  intro H locs hP hD hS
  refine lv_aload_n J.1 J.2.1 d_MA_keepStatus_19 rfl (lv_at hl 0 rfl) ?_
  refine jg J hJ hP 0 rfl rfl i_MA 0 (by decide) gf_MA_9 rfl d_MA_keepStatus_20 ?_
  refine lv_iload_n J.1 J.2.1 d_MA_keepStatus_23 rfl (lv_at hl 1 rfl) ?_
  refine lv_iconst (v := 2) J.1 J.2.1 d_MA_keepStatus_24 (by decide) ?_
  refine lv_iadd J.1 J.2.1 d_MA_keepStatus_25 ?_
  refine lv_aload_n J.1 J.2.1 d_MA_keepStatus_26 rfl (lv_at hl 0 rfl) ?_
  refine jg J hJ hP 0 rfl rfl i_MA 7 (by decide) gf_MA_47 rfl d_MA_keepStatus_27 ?_
  replace h := g_ck h
  obtain ⟨k_3, h⟩ := h
  refine jsi J hJ hP hD hS 1 rfl k_3 d_MA_keepStatus_30 (WS' := [(a0, .inr (0, [.ref a1, .ref a2, .ref a3, .ref k0, .int vsz, .int vmd, .int vpc, .int vba, .int vbo, .int vre, .int vti, .int vro, .int vha])), (a1, .inl (E.2.1 0, 1844, .inl (upd (upd (upd vmem p1.toNatClampNeg vmd) (p1 + 1).toNatClampNeg p2) (p1 + 2).toNatClampNeg vba)))]) rfl ?_
  clear hP hD hS
  intro H locs hP hD hS
  refine lv_aload_n J.1 J.2.1 d_MA_keepStatus_31 rfl (lv_at hl 0 rfl) ?_
  refine jg J hJ hP 0 rfl rfl i_MA 0 (by decide) gf_MA_9 rfl d_MA_keepStatus_32 ?_
  refine lv_iload_n J.1 J.2.1 d_MA_keepStatus_35 rfl (lv_at hl 1 rfl) ?_
  refine lv_iconst (v := 3) J.1 J.2.1 d_MA_keepStatus_36 (by decide) ?_
  refine lv_iadd J.1 J.2.1 d_MA_keepStatus_37 ?_
  refine lv_aload_n J.1 J.2.1 d_MA_keepStatus_38 rfl (lv_at hl 0 rfl) ?_
  refine jg J hJ hP 0 rfl rfl i_MA 8 (by decide) gf_MA_50 rfl d_MA_keepStatus_39 ?_
  replace h := g_ck h
  obtain ⟨k_4, h⟩ := h
  refine jsi J hJ hP hD hS 1 rfl k_4 d_MA_keepStatus_42 (WS' := [(a0, .inr (0, [.ref a1, .ref a2, .ref a3, .ref k0, .int vsz, .int vmd, .int vpc, .int vba, .int vbo, .int vre, .int vti, .int vro, .int vha])), (a1, .inl (E.2.1 0, 1844, .inl (upd (upd (upd (upd vmem p1.toNatClampNeg vmd) (p1 + 1).toNatClampNeg p2) (p1 + 2).toNatClampNeg vba) (p1 + 3).toNatClampNeg vbo)))]) rfl ?_
  clear hP hD hS
  intro H locs hP hD hS
  have h := Option.some.inj h
  rw [← h]
  exact jr_v J hS hP hD d_MA_keepStatus_43

theorem hd_MA_takeStatus : y_MA_takeStatus.cls ≠ "java/lang/invoke/MethodHandle" ∧ y_MA_takeStatus.cls ≠ "java/lang/invoke/VarHandle" ∧ (parseMethodDescriptor y_MA_takeStatus.desc).map (fun d => d.parameters.length) = some 1 := by decide +kernel
def b_MA_takeStatus_18 (vsz : Int32) (vmd : Int32) (vmem : Nat → Int32) (x1 : Int32) : Option (Int32 × Int32 × Int32 × Int32 × Int32) := (if ck (x1 + 1) 1844 then (if ck (x1 + 2) 1844 then (if ck (x1 + 3) 1844 then (if vsz ≤ ((vmem (x1 + 2).toNatClampNeg) + (vmem (x1 + 3).toNatClampNeg)) then (some (vmd, (vmem (x1 + 1).toNatClampNeg), (vmem (x1 + 2).toNatClampNeg), (vmem (x1 + 3).toNatClampNeg), (vsz - (vmem (x1 + 2).toNatClampNeg)))) else (some (vmd, (vmem (x1 + 1).toNatClampNeg), (vmem (x1 + 2).toNatClampNeg), (vmem (x1 + 3).toNatClampNeg), (vmem (x1 + 3).toNatClampNeg)))) else none) else none) else none)
def f_MA_takeStatus (vsz : Int32) (vmem : Nat → Int32) (p1 : Int32) : Option (Int32 × Int32 × Int32 × Int32 × Int32) := (if ck p1 1844 then (if (vmem p1.toNatClampNeg) = (0 : Int32) then b_MA_takeStatus_18 vsz 0 vmem p1 else b_MA_takeStatus_18 vsz 1 vmem p1) else none)
set_option maxHeartbeats 4000000 in
set_option maxRecDepth 100000 in
theorem kb_MA_takeStatus_18 {p : Program} {l : Launch} {e : Env} {s : State} {m : MethodId} {below : List Frame} {meth : Method} {c : Code} {A : Nat → Prop} {E : jz_E} {a0 a1 a2 a3 k0 : Nat} {p1 : Int32} {o_vmd : Int32} {o_vpc : Int32} {o_vba : Int32} {o_vbo : Int32} {o_vre : Int32} (J : JC p s m ([.ref a0, .int p1] : List Value).toArray meth c c_MA_takeStatus 2 none y_MA_takeStatus.cls) (hJ : jE E s) (hA : ∀ q : Nat, s.heap.size ≤ q → A q) (hZ : jz_ok E A s s.heap) : ∀ (vsz : Int32) (vmd : Int32) (vpc : Int32) (vba : Int32) (vbo : Int32) (vre : Int32) (vti : Int32) (vro : Int32) (vha : Int32) (vmem : Nat → Int32) (x1 : Int32) (H : Heap) (locs : List Loc) (ls : Array Slot), b_MA_takeStatus_18 vsz vmd vmem x1 = some (o_vmd, o_vpc, o_vba, o_vbo, o_vre) → va_P E.1 classes [(a0, .inr (0, [.ref a1, .ref a2, .ref a3, .ref k0, .int vsz, .int vmd, .int vpc, .int vba, .int vbo, .int vre, .int vti, .int vro, .int vha])), (a1, .inl (E.2.1 0, 1844, .inl vmem))] H → va_D A [(a0, .inr (0, [.ref a1, .ref a2, .ref a3, .ref k0, .int vsz, .int vmd, .int vpc, .int vba, .int vbo, .int vre, .int vti, .int vro, .int vha])), (a1, .inl (E.2.1 0, 1844, .inl vmem))] → va_S A s.heap H locs → lv_has ls 2 [(0, .ref a0), (1, .int x1)] → W p l e ({ frames := 0, cells := 0, slots := 0, locals := 0 }) s m ([.ref a0, .int p1] : List Value).toArray below meth c H locs 0 0 (MQ below (va_Qv (fun (u : va_W) => u = [(a0, .inr (0, [.ref a1, .ref a2, .ref a3, .ref k0, .int vsz, .int o_vmd, .int o_vpc, .int o_vba, .int o_vbo, .int o_vre, .int vti, .int vro, .int vha])), (a1, .inl (E.2.1 0, 1844, .inl vmem))]) (BW E A) A) ([.ref a0, .int p1] : List Value).toArray s 0 0 A) (F0 m 18 ls []) := by
  intro vsz vmd vpc vba vbo vre vti vro vha vmem x1 H locs ls h hP hD hS hl
  rw [b_MA_takeStatus_18] at h
  refine lv_aload_n J.1 J.2.1 d_MA_takeStatus_18 rfl (lv_at hl 0 rfl) ?_
  refine lv_aload_n J.1 J.2.1 d_MA_takeStatus_19 rfl (lv_at hl 0 rfl) ?_
  refine jg J hJ hP 0 rfl rfl i_MA 0 (by decide) gf_MA_9 rfl d_MA_takeStatus_20 ?_
  refine lv_iload_n J.1 J.2.1 d_MA_takeStatus_23 rfl (lv_at hl 1 rfl) ?_
  refine lv_iconst (v := 1) J.1 J.2.1 d_MA_takeStatus_24 (by decide) ?_
  refine lv_iadd J.1 J.2.1 d_MA_takeStatus_25 ?_
  replace h := g_ck h
  obtain ⟨k_1, h⟩ := h
  refine jai J hJ hP 1 rfl k_1 d_MA_takeStatus_26 ?_
  refine jp J hJ hP hD hS 0 rfl rfl i_MA t_MA t_MA_ok n_MA 6 (by decide) gf_MA_44 rfl rfl rfl (Nat.le_of_ble_eq_true rfl) d_MA_takeStatus_27 (WS' := [(a0, .inr (0, [.ref a1, .ref a2, .ref a3, .ref k0, .int vsz, .int vmd, .int (vmem (x1 + 1).toNatClampNeg), .int vba, .int vbo, .int vre, .int vti, .int vro, .int vha])), (a1, .inl (E.2.1 0, 1844, .inl vmem))]) rfl ?_
  clear hP hD hS
  intro H locs hP hD hS
  refine lv_aload_n J.1 J.2.1 d_MA_takeStatus_30 rfl (lv_at hl 0 rfl) ?_
  refine lv_aload_n J.1 J.2.1 d_MA_takeStatus_31 rfl (lv_at hl 0 rfl) ?_
  refine jg J hJ hP 0 rfl rfl i_MA 0 (by decide) gf_MA_9 rfl d_MA_takeStatus_32 ?_
  refine lv_iload_n J.1 J.2.1 d_MA_takeStatus_35 rfl (lv_at hl 1 rfl) ?_
  refine lv_iconst (v := 2) J.1 J.2.1 d_MA_takeStatus_36 (by decide) ?_
  refine lv_iadd J.1 J.2.1 d_MA_takeStatus_37 ?_
  replace h := g_ck h
  obtain ⟨k_2, h⟩ := h
  refine jai J hJ hP 1 rfl k_2 d_MA_takeStatus_38 ?_
  refine jp J hJ hP hD hS 0 rfl rfl i_MA t_MA t_MA_ok n_MA 7 (by decide) gf_MA_47 rfl rfl rfl (Nat.le_of_ble_eq_true rfl) d_MA_takeStatus_39 (WS' := [(a0, .inr (0, [.ref a1, .ref a2, .ref a3, .ref k0, .int vsz, .int vmd, .int (vmem (x1 + 1).toNatClampNeg), .int (vmem (x1 + 2).toNatClampNeg), .int vbo, .int vre, .int vti, .int vro, .int vha])), (a1, .inl (E.2.1 0, 1844, .inl vmem))]) rfl ?_
  clear hP hD hS
  intro H locs hP hD hS
  refine lv_aload_n J.1 J.2.1 d_MA_takeStatus_42 rfl (lv_at hl 0 rfl) ?_
  refine lv_aload_n J.1 J.2.1 d_MA_takeStatus_43 rfl (lv_at hl 0 rfl) ?_
  refine jg J hJ hP 0 rfl rfl i_MA 0 (by decide) gf_MA_9 rfl d_MA_takeStatus_44 ?_
  refine lv_iload_n J.1 J.2.1 d_MA_takeStatus_47 rfl (lv_at hl 1 rfl) ?_
  refine lv_iconst (v := 3) J.1 J.2.1 d_MA_takeStatus_48 (by decide) ?_
  refine lv_iadd J.1 J.2.1 d_MA_takeStatus_49 ?_
  replace h := g_ck h
  obtain ⟨k_3, h⟩ := h
  refine jai J hJ hP 1 rfl k_3 d_MA_takeStatus_50 ?_
  refine jp J hJ hP hD hS 0 rfl rfl i_MA t_MA t_MA_ok n_MA 8 (by decide) gf_MA_50 rfl rfl rfl (Nat.le_of_ble_eq_true rfl) d_MA_takeStatus_51 (WS' := [(a0, .inr (0, [.ref a1, .ref a2, .ref a3, .ref k0, .int vsz, .int vmd, .int (vmem (x1 + 1).toNatClampNeg), .int (vmem (x1 + 2).toNatClampNeg), .int (vmem (x1 + 3).toNatClampNeg), .int vre, .int vti, .int vro, .int vha])), (a1, .inl (E.2.1 0, 1844, .inl vmem))]) rfl ?_
  clear hP hD hS
  intro H locs hP hD hS
  refine lv_aload_n J.1 J.2.1 d_MA_takeStatus_54 rfl (lv_at hl 0 rfl) ?_
  refine lv_aload_n J.1 J.2.1 d_MA_takeStatus_55 rfl (lv_at hl 0 rfl) ?_
  refine jg J hJ hP 0 rfl rfl i_MA 7 (by decide) gf_MA_47 rfl d_MA_takeStatus_56 ?_
  refine lv_aload_n J.1 J.2.1 d_MA_takeStatus_59 rfl (lv_at hl 0 rfl) ?_
  refine jg J hJ hP 0 rfl rfl i_MA 8 (by decide) gf_MA_50 rfl d_MA_takeStatus_60 ?_
  refine lv_iadd J.1 J.2.1 d_MA_takeStatus_63 ?_
  refine lv_aload_n J.1 J.2.1 d_MA_takeStatus_64 rfl (lv_at hl 0 rfl) ?_
  refine jg J hJ hP 0 rfl rfl i_MA 4 (by decide) gf_MA_28 rfl d_MA_takeStatus_65 ?_
  refine lv_icmp_ge (tgt := 78) J.1 J.2.1 d_MA_takeStatus_68 (by decide) (fun c_4 => ?_) (fun c_4 => ?_)
  · replace h := g_t c_4 h
    refine lv_aload_n J.1 J.2.1 d_MA_takeStatus_78 rfl (lv_at hl 0 rfl) ?_
    refine jg J hJ hP 0 rfl rfl i_MA 4 (by decide) gf_MA_28 rfl d_MA_takeStatus_79 ?_
    refine lv_aload_n J.1 J.2.1 d_MA_takeStatus_82 rfl (lv_at hl 0 rfl) ?_
    refine jg J hJ hP 0 rfl rfl i_MA 7 (by decide) gf_MA_47 rfl d_MA_takeStatus_83 ?_
    refine lv_isub J.1 J.2.1 d_MA_takeStatus_86 ?_
    refine jp J hJ hP hD hS 0 rfl rfl i_MA t_MA t_MA_ok n_MA 9 (by decide) gf_MA_53 rfl rfl rfl (Nat.le_of_ble_eq_true rfl) d_MA_takeStatus_87 (WS' := [(a0, .inr (0, [.ref a1, .ref a2, .ref a3, .ref k0, .int vsz, .int vmd, .int (vmem (x1 + 1).toNatClampNeg), .int (vmem (x1 + 2).toNatClampNeg), .int (vmem (x1 + 3).toNatClampNeg), .int (vsz - (vmem (x1 + 2).toNatClampNeg)), .int vti, .int vro, .int vha])), (a1, .inl (E.2.1 0, 1844, .inl vmem))]) rfl ?_
    clear hP hD hS
    intro H locs hP hD hS
    have h := Option.some.inj h
    have e_0 := (Prod.mk.inj h).1
    have h := (Prod.mk.inj h).2
    have e_1 := (Prod.mk.inj h).1
    have h := (Prod.mk.inj h).2
    have e_2 := (Prod.mk.inj h).1
    have h := (Prod.mk.inj h).2
    have e_3 := (Prod.mk.inj h).1
    have h := (Prod.mk.inj h).2
    rw [← e_0, ← e_1, ← e_2, ← e_3, ← h]
    exact jr_v J hS hP hD d_MA_takeStatus_90
  · replace h := g_f c_4 h
    refine lv_aload_n J.1 J.2.1 d_MA_takeStatus_71 rfl (lv_at hl 0 rfl) ?_
    refine jg J hJ hP 0 rfl rfl i_MA 8 (by decide) gf_MA_50 rfl d_MA_takeStatus_72 ?_
    refine lv_goto (tgt := 87) J.1 J.2.1 d_MA_takeStatus_75 (by decide) ?_
    refine jp J hJ hP hD hS 0 rfl rfl i_MA t_MA t_MA_ok n_MA 9 (by decide) gf_MA_53 rfl rfl rfl (Nat.le_of_ble_eq_true rfl) d_MA_takeStatus_87 (WS' := [(a0, .inr (0, [.ref a1, .ref a2, .ref a3, .ref k0, .int vsz, .int vmd, .int (vmem (x1 + 1).toNatClampNeg), .int (vmem (x1 + 2).toNatClampNeg), .int (vmem (x1 + 3).toNatClampNeg), .int (vmem (x1 + 3).toNatClampNeg), .int vti, .int vro, .int vha])), (a1, .inl (E.2.1 0, 1844, .inl vmem))]) rfl ?_
    clear hP hD hS
    intro H locs hP hD hS
    have h := Option.some.inj h
    have e_0 := (Prod.mk.inj h).1
    have h := (Prod.mk.inj h).2
    have e_1 := (Prod.mk.inj h).1
    have h := (Prod.mk.inj h).2
    have e_2 := (Prod.mk.inj h).1
    have h := (Prod.mk.inj h).2
    have e_3 := (Prod.mk.inj h).1
    have h := (Prod.mk.inj h).2
    rw [← e_0, ← e_1, ← e_2, ← e_3, ← h]
    exact jr_v J hS hP hD d_MA_takeStatus_90
set_option maxHeartbeats 4000000 in
set_option maxRecDepth 100000 in
theorem ct_MA_takeStatus (l : Launch) (E : jz_E) (a0 a1 a2 a3 k0 : Nat) (sz : Nat) (vsz : Int32) (vmd : Int32) (vpc : Int32) (vba : Int32) (vbo : Int32) (vre : Int32) (vti : Int32) (vro : Int32) (vha : Int32) (vmem : Nat → Int32) (p1 : Int32) (o_vmd : Int32) (o_vpc : Int32) (o_vba : Int32) (o_vbo : Int32) (o_vre : Int32)  (h : f_MA_takeStatus vsz vmem p1 = some (o_vmd, o_vpc, o_vba, o_vbo, o_vre)) : CTv l E y_MA_takeStatus c_MA_takeStatus 2 none ({ frames := 0, cells := 0, slots := 0, locals := 0 }) [.ref a0, .int p1] [(a0, .inr (0, [.ref a1, .ref a2, .ref a3, .ref k0, .int vsz, .int vmd, .int vpc, .int vba, .int vbo, .int vre, .int vti, .int vro, .int vha])), (a1, .inl (E.2.1 0, 1844, .inl vmem))] sz [(a0, .inr (0, [.ref a1, .ref a2, .ref a3, .ref k0, .int vsz, .int o_vmd, .int o_vpc, .int o_vba, .int o_vbo, .int o_vre, .int vti, .int vro, .int vha])), (a1, .inl (E.2.1 0, 1844, .inl vmem))] := by
  refine jw (by decide +kernel) (Nat.le_of_ble_eq_true rfl) ?_
  intro p e s m below meth c A ls J hJ hAe hsz hA hZ hP hD hl
  rw [← hAe]
  have hS : va_S A s.heap s.heap [] := va_S.rf
  have hl : lv_has ls 2 [(0, .ref a0), (1, .int p1)] := hl
  unfold f_MA_takeStatus at h
  refine lv_aload_n J.1 J.2.1 d_MA_takeStatus_0 rfl (lv_at hl 0 rfl) ?_
  refine lv_aload_n J.1 J.2.1 d_MA_takeStatus_1 rfl (lv_at hl 0 rfl) ?_
  refine jg J hJ hP 0 rfl rfl i_MA 0 (by decide) gf_MA_9 rfl d_MA_takeStatus_2 ?_
  refine lv_iload_n J.1 J.2.1 d_MA_takeStatus_5 rfl (lv_at hl 1 rfl) ?_
  replace h := g_ck h
  obtain ⟨k_5, h⟩ := h
  refine jai J hJ hP 1 rfl k_5 d_MA_takeStatus_6 ?_
  refine lv_if_ne (tgt := 14) J.1 J.2.1 d_MA_takeStatus_7 (by decide) (fun c_6 => ?_) (fun c_6 => ?_)
  · replace h := g_f c_6 h
    refine lv_iconst (v := 1) J.1 J.2.1 d_MA_takeStatus_14 (by decide) ?_
    refine jp J hJ hP hD hS 0 rfl rfl i_MA t_MA t_MA_ok n_MA 5 (by decide) gf_MA_41 rfl rfl rfl (Nat.le_of_ble_eq_true rfl) d_MA_takeStatus_15 (WS' := [(a0, .inr (0, [.ref a1, .ref a2, .ref a3, .ref k0, .int vsz, .int 1, .int vpc, .int vba, .int vbo, .int vre, .int vti, .int vro, .int vha])), (a1, .inl (E.2.1 0, 1844, .inl vmem))]) rfl ?_
    clear hP hD hS
    intro H locs hP hD hS
    exact kb_MA_takeStatus_18 J hJ hA hZ _ _ _ _ _ _ _ _ _ _ _ _ _ _ h hP hD hS (lv_sub hl [0, 1] rfl)
  · replace h := g_t c_6 h
    refine lv_iconst (v := 0) J.1 J.2.1 d_MA_takeStatus_10 (by decide) ?_
    refine lv_goto (tgt := 15) J.1 J.2.1 d_MA_takeStatus_11 (by decide) ?_
    refine jp J hJ hP hD hS 0 rfl rfl i_MA t_MA t_MA_ok n_MA 5 (by decide) gf_MA_41 rfl rfl rfl (Nat.le_of_ble_eq_true rfl) d_MA_takeStatus_15 (WS' := [(a0, .inr (0, [.ref a1, .ref a2, .ref a3, .ref k0, .int vsz, .int 0, .int vpc, .int vba, .int vbo, .int vre, .int vti, .int vro, .int vha])), (a1, .inl (E.2.1 0, 1844, .inl vmem))]) rfl ?_
    clear hP hD hS
    intro H locs hP hD hS
    exact kb_MA_takeStatus_18 J hJ hA hZ _ _ _ _ _ _ _ _ _ _ _ _ _ _ h hP hD hS (lv_sub hl [0, 1] rfl)

theorem hd_MA_trap : y_MA_trap.cls ≠ "java/lang/invoke/MethodHandle" ∧ y_MA_trap.cls ≠ "java/lang/invoke/VarHandle" ∧ (parseMethodDescriptor y_MA_trap.desc).map (fun d => d.parameters.length) = some 3 := by decide +kernel
def f_MA_trap (vsz : Int32) (vmd : Int32) (vba : Int32) (vbo : Int32) (vmem : Nat → Int32) (p1 : Int32) (p2 : Int32) (p3 : Int32) : Option (Int32 × Int32 × Int32 × Int32 × Int32 × (Nat → Int32)) := ((f_MA_keepStatus vmd vba vbo vmem 0 p3).bind fun vmem_1 => ((f_MA_takeStatus vsz (upd (upd vmem_1 (8 : Int32).toNatClampNeg p1) (9 : Int32).toNatClampNeg p2) 4).bind fun (vmd_2, vpc_2, vba_2, vbo_2, vre_2) => (some (vmd_2, vpc_2, vba_2, vbo_2, vre_2, (upd (upd vmem_1 (8 : Int32).toNatClampNeg p1) (9 : Int32).toNatClampNeg p2)))))
set_option maxHeartbeats 4000000 in
set_option maxRecDepth 100000 in
theorem ct_MA_trap (l : Launch) (E : jz_E) (a0 a1 a2 a3 k0 : Nat) (sz : Nat) (vsz : Int32) (vmd : Int32) (vpc : Int32) (vba : Int32) (vbo : Int32) (vre : Int32) (vti : Int32) (vro : Int32) (vha : Int32) (vmem : Nat → Int32) (p1 : Int32) (p2 : Int32) (p3 : Int32) (o_vmd : Int32) (o_vpc : Int32) (o_vba : Int32) (o_vbo : Int32) (o_vre : Int32) (o_vmem : Nat → Int32)  (h : f_MA_trap vsz vmd vba vbo vmem p1 p2 p3 = some (o_vmd, o_vpc, o_vba, o_vbo, o_vre, o_vmem)) : CTv l E y_MA_trap c_MA_trap 4 none ({ frames := 1, cells := 0, slots := 0, locals := 22 }) [.ref a0, .int p1, .int p2, .int p3] [(a0, .inr (0, [.ref a1, .ref a2, .ref a3, .ref k0, .int vsz, .int vmd, .int vpc, .int vba, .int vbo, .int vre, .int vti, .int vro, .int vha])), (a1, .inl (E.2.1 0, 1844, .inl vmem))] sz [(a0, .inr (0, [.ref a1, .ref a2, .ref a3, .ref k0, .int vsz, .int o_vmd, .int o_vpc, .int o_vba, .int o_vbo, .int o_vre, .int vti, .int vro, .int vha])), (a1, .inl (E.2.1 0, 1844, .inl o_vmem))] := by
  refine jw (by decide +kernel) (Nat.le_of_ble_eq_true rfl) ?_
  intro p e s m below meth c A ls J hJ hAe hsz hA hZ hP hD hl
  rw [← hAe]
  have hS : va_S A s.heap s.heap [] := va_S.rf
  have hl : lv_has ls 4 [(0, .ref a0), (1, .int p1), (2, .int p2), (3, .int p3)] := hl
  unfold f_MA_trap at h
  refine lv_aload_n J.1 J.2.1 d_MA_trap_0 rfl (lv_at hl 0 rfl) ?_
  refine lv_iconst (v := 0) J.1 J.2.1 d_MA_trap_1 (by decide) ?_
  refine lv_iload_n J.1 J.2.1 d_MA_trap_2 rfl (lv_at hl 3 rfl) ?_
  replace h := g_bd h
  obtain ⟨vmem_1, q_1, h⟩ := h
  have hq := ct_MA_keepStatus l E a0 a1 a2 a3 k0 s.heap.size vsz vmd vpc vba vbo vre vti vro vha vmem 0 p3 vmem_1 q_1
  have hr := jrunV (p := p) (e := e) (below := below) (R := ({ frames := 1, cells := 0, slots := 0, locals := 22 })) (cells := 0) (slots := 0) (As := [.int 0, .int p3]) (rest := []) J hJ hA hZ hP hD hS hq [0, 1] rfl (by decide) gl_MA_99 gi_MA_keepStatus gsel_MA_keepStatus gini_MA gc_MA_keepStatus hd_MA_keepStatus ⟨rfl, rfl, Nat.le_of_ble_eq_true rfl, Nat.le_of_ble_eq_true rfl⟩ rfl rfl hl.1 rfl rfl (Nat.le_of_ble_eq_true rfl) d_MA_trap_3 ⟨Nat.zero_le _, Nat.zero_le _⟩
  clear hq
  refine jk_v hr hA hP hD hS [0, 1] [] (WR := []) rfl rfl (by decide) (by decide) [0, 1] (WF := [(a0, .inr (0, [.ref a1, .ref a2, .ref a3, .ref k0, .int vsz, .int vmd, .int vpc, .int vba, .int vbo, .int vre, .int vti, .int vro, .int vha])), (a1, .inl (E.2.1 0, 1844, .inl vmem_1))]) rfl (by decide) ?_
  clear hP hD hS
  intro H locs hP hD hS
  clear hr
  refine lv_aload_n J.1 J.2.1 d_MA_trap_6 rfl (lv_at hl 0 rfl) ?_
  refine jg J hJ hP 0 rfl rfl i_MA 0 (by decide) gf_MA_9 rfl d_MA_trap_7 ?_
  refine lv_bipush (v := 8) J.1 J.2.1 d_MA_trap_10 (by decide) ?_
  refine lv_iload_n J.1 J.2.1 d_MA_trap_12 rfl (lv_at hl 1 rfl) ?_
  refine jsi J hJ hP hD hS 1 rfl (by unfold vp_in; decide) d_MA_trap_13 (WS' := [(a0, .inr (0, [.ref a1, .ref a2, .ref a3, .ref k0, .int vsz, .int vmd, .int vpc, .int vba, .int vbo, .int vre, .int vti, .int vro, .int vha])), (a1, .inl (E.2.1 0, 1844, .inl (upd vmem_1 (8 : Int32).toNatClampNeg p1)))]) rfl ?_
  clear hP hD hS
  intro H locs hP hD hS
  refine lv_aload_n J.1 J.2.1 d_MA_trap_14 rfl (lv_at hl 0 rfl) ?_
  refine jg J hJ hP 0 rfl rfl i_MA 0 (by decide) gf_MA_9 rfl d_MA_trap_15 ?_
  refine lv_bipush (v := 9) J.1 J.2.1 d_MA_trap_18 (by decide) ?_
  refine lv_iload_n J.1 J.2.1 d_MA_trap_20 rfl (lv_at hl 2 rfl) ?_
  refine jsi J hJ hP hD hS 1 rfl (by unfold vp_in; decide) d_MA_trap_21 (WS' := [(a0, .inr (0, [.ref a1, .ref a2, .ref a3, .ref k0, .int vsz, .int vmd, .int vpc, .int vba, .int vbo, .int vre, .int vti, .int vro, .int vha])), (a1, .inl (E.2.1 0, 1844, .inl (upd (upd vmem_1 (8 : Int32).toNatClampNeg p1) (9 : Int32).toNatClampNeg p2)))]) rfl ?_
  clear hP hD hS
  intro H locs hP hD hS
  refine lv_aload_n J.1 J.2.1 d_MA_trap_22 rfl (lv_at hl 0 rfl) ?_
  refine lv_iconst (v := 4) J.1 J.2.1 d_MA_trap_23 (by decide) ?_
  replace h := g_bd h
  obtain ⟨⟨vmd_2, vpc_2, vba_2, vbo_2, vre_2⟩, q_2, h⟩ := h
  try dsimp only at h
  have hq := ct_MA_takeStatus l E a0 a1 a2 a3 k0 H.size vsz vmd vpc vba vbo vre vti vro vha (upd (upd vmem_1 (8 : Int32).toNatClampNeg p1) (9 : Int32).toNatClampNeg p2) 4 vmd_2 vpc_2 vba_2 vbo_2 vre_2 q_2
  have hr := jrunV (p := p) (e := e) (below := below) (R := ({ frames := 1, cells := 0, slots := 0, locals := 22 })) (cells := 0) (slots := 0) (As := [.int 4]) (rest := []) J hJ hA hZ hP hD hS hq [0, 1] rfl (by decide) gl_MA_96 gi_MA_takeStatus gsel_MA_takeStatus gini_MA gc_MA_takeStatus hd_MA_takeStatus ⟨rfl, rfl, Nat.le_of_ble_eq_true rfl, Nat.le_of_ble_eq_true rfl⟩ rfl rfl hl.1 rfl rfl (Nat.le_of_ble_eq_true rfl) d_MA_trap_24 ⟨Nat.zero_le _, Nat.zero_le _⟩
  clear hq
  refine jk_v hr hA hP hD hS [0, 1] [] (WR := []) rfl rfl (by decide) (by decide) [0, 1] (WF := [(a0, .inr (0, [.ref a1, .ref a2, .ref a3, .ref k0, .int vsz, .int vmd_2, .int vpc_2, .int vba_2, .int vbo_2, .int vre_2, .int vti, .int vro, .int vha])), (a1, .inl (E.2.1 0, 1844, .inl (upd (upd vmem_1 (8 : Int32).toNatClampNeg p1) (9 : Int32).toNatClampNeg p2)))]) rfl (by decide) ?_
  clear hP hD hS
  intro H locs hP hD hS
  clear hr
  have h := Option.some.inj h
  have e_0 := (Prod.mk.inj h).1
  have h := (Prod.mk.inj h).2
  have e_1 := (Prod.mk.inj h).1
  have h := (Prod.mk.inj h).2
  have e_2 := (Prod.mk.inj h).1
  have h := (Prod.mk.inj h).2
  have e_3 := (Prod.mk.inj h).1
  have h := (Prod.mk.inj h).2
  have e_4 := (Prod.mk.inj h).1
  have h := (Prod.mk.inj h).2
  rw [← e_0, ← e_1, ← e_2, ← e_3, ← e_4, ← h]
  exact jr_v J hS hP hD d_MA_trap_27

theorem hd_MA_firstBad : y_MA_firstBad.cls ≠ "java/lang/invoke/MethodHandle" ∧ y_MA_firstBad.cls ≠ "java/lang/invoke/VarHandle" ∧ (parseMethodDescriptor y_MA_firstBad.desc).map (fun d => d.parameters.length) = some 2 := by decide +kernel
def b_MA_firstBad_2 : Nat → Int32 → Int32 → Int32 → Int32 → Option (Int32)
  | 0, _, _, _, _ => none
  | n + 1, vre, x1, x2, x3 => (if x2 ≤ x3 then (some (-1)) else (if ((x1 + x3) &&& 65535) < vre then b_MA_firstBad_2 n vre x1 x2 (x3 + 1) else (some ((x1 + x3) &&& 65535))))
def f_MA_firstBad (vre : Int32) (p1 : Int32) (p2 : Int32) : Option (Int32) := b_MA_firstBad_2 65536 vre p1 p2 0
set_option maxHeartbeats 4000000 in
set_option maxRecDepth 100000 in
theorem kb_MA_firstBad_2 {p : Program} {l : Launch} {e : Env} {s : State} {m : MethodId} {below : List Frame} {meth : Method} {c : Code} {A : Nat → Prop} {E : jz_E} {a0 a1 a2 a3 k0 : Nat} {p1 : Int32} {p2 : Int32} {o_r : Int32} (J : JC p s m ([.ref a0, .int p1, .int p2] : List Value).toArray meth c c_MA_firstBad 5 (some .int) y_MA_firstBad.cls) (hJ : jE E s) (hA : ∀ q : Nat, s.heap.size ≤ q → A q) (hZ : jz_ok E A s s.heap) : ∀ (n : Nat) (vsz : Int32) (vmd : Int32) (vpc : Int32) (vba : Int32) (vbo : Int32) (vre : Int32) (vti : Int32) (vro : Int32) (vha : Int32) (x1 : Int32) (x2 : Int32) (x3 : Int32) (H : Heap) (locs : List Loc) (ls : Array Slot), b_MA_firstBad_2 n vre x1 x2 x3 = some o_r → va_P E.1 classes [(a0, .inr (0, [.ref a1, .ref a2, .ref a3, .ref k0, .int vsz, .int vmd, .int vpc, .int vba, .int vbo, .int vre, .int vti, .int vro, .int vha]))] H → va_D A [(a0, .inr (0, [.ref a1, .ref a2, .ref a3, .ref k0, .int vsz, .int vmd, .int vpc, .int vba, .int vbo, .int vre, .int vti, .int vro, .int vha]))] → va_S A s.heap H locs → lv_has ls 5 [(0, .ref a0), (1, .int x1), (2, .int x2), (3, .int x3)] → W p l e ({ frames := 0, cells := 0, slots := 0, locals := 0 }) s m ([.ref a0, .int p1, .int p2] : List Value).toArray below meth c H locs 0 0 (MQ below (va_Qi (fun (r' : Int32) (u : va_W) => r' = o_r ∧ u = [(a0, .inr (0, [.ref a1, .ref a2, .ref a3, .ref k0, .int vsz, .int vmd, .int vpc, .int vba, .int vbo, .int vre, .int vti, .int vro, .int vha]))]) (BW E A) A) ([.ref a0, .int p1, .int p2] : List Value).toArray s 0 0 A) (F0 m 2 ls []) := by
  intro n
  induction n with
  | zero => intro vsz vmd vpc vba vbo vre vti vro vha x1 x2 x3 H locs ls h; cases h
  | succ n ih =>
    intro vsz vmd vpc vba vbo vre vti vro vha x1 x2 x3 H locs ls h hP hD hS hl
    rw [b_MA_firstBad_2] at h
    refine lv_iload_n J.1 J.2.1 d_MA_firstBad_2 rfl (lv_at hl 3 rfl) ?_
    refine lv_iload_n J.1 J.2.1 d_MA_firstBad_3 rfl (lv_at hl 2 rfl) ?_
    refine lv_icmp_ge (tgt := 33) J.1 J.2.1 d_MA_firstBad_4 (by decide) (fun c_1 => ?_) (fun c_1 => ?_)
    · replace h := g_t c_1 h
      refine lv_iconst (v := (-1)) J.1 J.2.1 d_MA_firstBad_33 (by decide) ?_
      have h := Option.some.inj h
      rw [← h]
      exact jr_i J hS hP hD rfl d_MA_firstBad_34
    · replace h := g_f c_1 h
      refine lv_iload_n J.1 J.2.1 d_MA_firstBad_7 rfl (lv_at hl 1 rfl) ?_
      refine lv_iload_n J.1 J.2.1 d_MA_firstBad_8 rfl (lv_at hl 3 rfl) ?_
      refine lv_iadd J.1 J.2.1 d_MA_firstBad_9 ?_
      refine lv_ldc (v := 65535) J.1 J.2.1 J.2.2.2.2.1 (J.2.2.2.2.2.1 _ gk_MA_70) d_MA_firstBad_10 ?_
      refine lv_iand J.1 J.2.1 d_MA_firstBad_12 ?_
      refine lv_istore (lv' := [(4, .int ((x1 + x3) &&& 65535)), (0, .ref a0), (1, .int x1), (2, .int x2), (3, .int x3)]) J.1 J.2.1 d_MA_firstBad_13 hl (by decide) rfl ?_
      clear hl
      intro ls hl
      refine lv_iload J.1 J.2.1 d_MA_firstBad_15 (lv_at hl 0 rfl) ?_
      refine lv_aload_n J.1 J.2.1 d_MA_firstBad_17 rfl (lv_at hl 1 rfl) ?_
      refine jg J hJ hP 0 rfl rfl i_MA 9 (by decide) gf_MA_53 rfl d_MA_firstBad_18 ?_
      refine lv_icmp_lt (tgt := 27) J.1 J.2.1 d_MA_firstBad_21 (by decide) (fun c_2 => ?_) (fun c_2 => ?_)
      · replace h := g_t c_2 h
        refine lv_iinc (v := (x3 + 1)) (lv' := [(3, .int (x3 + 1)), (4, .int ((x1 + x3) &&& 65535)), (0, .ref a0), (1, .int x1), (2, .int x2)]) J.1 J.2.1 d_MA_firstBad_27 hl (k := 4) rfl rfl (by decide) rfl ?_
        clear hl
        intro ls hl
        refine lv_goto (tgt := 2) J.1 J.2.1 d_MA_firstBad_30 (by decide) ?_
        exact ih _ _ _ _ _ _ _ _ _ _ _ _ _ _ _ h hP hD hS (lv_sub hl [2, 3, 4, 0] rfl)
      · replace h := g_f c_2 h
        refine lv_iload J.1 J.2.1 d_MA_firstBad_24 (lv_at hl 0 rfl) ?_
        have h := Option.some.inj h
        rw [← h]
        exact jr_i J hS hP hD rfl d_MA_firstBad_26
set_option maxHeartbeats 4000000 in
set_option maxRecDepth 100000 in
theorem ct_MA_firstBad (l : Launch) (E : jz_E) (a0 a1 a2 a3 k0 : Nat) (sz : Nat) (vsz : Int32) (vmd : Int32) (vpc : Int32) (vba : Int32) (vbo : Int32) (vre : Int32) (vti : Int32) (vro : Int32) (vha : Int32) (p1 : Int32) (p2 : Int32) (o_r : Int32)  (h : f_MA_firstBad vre p1 p2 = some o_r) : CTi l E y_MA_firstBad c_MA_firstBad 5 (some .int) ({ frames := 0, cells := 0, slots := 0, locals := 0 }) [.ref a0, .int p1, .int p2] [(a0, .inr (0, [.ref a1, .ref a2, .ref a3, .ref k0, .int vsz, .int vmd, .int vpc, .int vba, .int vbo, .int vre, .int vti, .int vro, .int vha]))] sz o_r [(a0, .inr (0, [.ref a1, .ref a2, .ref a3, .ref k0, .int vsz, .int vmd, .int vpc, .int vba, .int vbo, .int vre, .int vti, .int vro, .int vha]))] := by
  refine jw (by decide +kernel) (Nat.le_of_ble_eq_true rfl) ?_
  intro p e s m below meth c A ls J hJ hAe hsz hA hZ hP hD hl
  rw [← hAe]
  have hS : va_S A s.heap s.heap [] := va_S.rf
  have hl : lv_has ls 5 [(0, .ref a0), (1, .int p1), (2, .int p2)] := hl
  unfold f_MA_firstBad at h
  refine lv_iconst (v := 0) J.1 J.2.1 d_MA_firstBad_0 (by decide) ?_
  refine lv_istore_n (lv' := [(3, .int 0), (0, .ref a0), (1, .int p1), (2, .int p2)]) J.1 J.2.1 d_MA_firstBad_1 rfl hl (by decide) rfl ?_
  clear hl
  intro ls hl
  exact kb_MA_firstBad_2 J hJ hA hZ _ _ _ _ _ _ _ _ _ _ _ _ _ _ _ _ h hP hD hS (lv_sub hl [1, 2, 3, 0] rfl)

theorem hd_MA_goOn : y_MA_goOn.cls ≠ "java/lang/invoke/MethodHandle" ∧ y_MA_goOn.cls ≠ "java/lang/invoke/VarHandle" ∧ (parseMethodDescriptor y_MA_goOn.desc).map (fun d => d.parameters.length) = some 1 := by decide +kernel
def f_MA_goOn (vmd : Int32) (vti : Int32) (vro : Int32) (p1 : Int32) : Option (Int32 × Int32 × Int32) := (if vmd = (1 : Int32) then (if vti ≤ (0 : Int32) then (some (p1, vti, vro)) else (if (vti - 1) = (0 : Int32) then (some (p1, (vti - 1), 1)) else (some (p1, (vti - 1), 0)))) else (some (p1, vti, vro)))
set_option maxHeartbeats 4000000 in
set_option maxRecDepth 100000 in
theorem ct_MA_goOn (l : Launch) (E : jz_E) (a0 a1 a2 a3 k0 : Nat) (sz : Nat) (vsz : Int32) (vmd : Int32) (vpc : Int32) (vba : Int32) (vbo : Int32) (vre : Int32) (vti : Int32) (vro : Int32) (vha : Int32) (p1 : Int32) (o_vpc : Int32) (o_vti : Int32) (o_vro : Int32)  (h : f_MA_goOn vmd vti vro p1 = some (o_vpc, o_vti, o_vro)) : CTv l E y_MA_goOn c_MA_goOn 2 none ({ frames := 0, cells := 0, slots := 0, locals := 0 }) [.ref a0, .int p1] [(a0, .inr (0, [.ref a1, .ref a2, .ref a3, .ref k0, .int vsz, .int vmd, .int vpc, .int vba, .int vbo, .int vre, .int vti, .int vro, .int vha]))] sz [(a0, .inr (0, [.ref a1, .ref a2, .ref a3, .ref k0, .int vsz, .int vmd, .int o_vpc, .int vba, .int vbo, .int vre, .int o_vti, .int o_vro, .int vha]))] := by
  refine jw (by decide +kernel) (Nat.le_of_ble_eq_true rfl) ?_
  intro p e s m below meth c A ls J hJ hAe hsz hA hZ hP hD hl
  rw [← hAe]
  have hS : va_S A s.heap s.heap [] := va_S.rf
  have hl : lv_has ls 2 [(0, .ref a0), (1, .int p1)] := hl
  unfold f_MA_goOn at h
  refine lv_aload_n J.1 J.2.1 d_MA_goOn_0 rfl (lv_at hl 0 rfl) ?_
  refine lv_iload_n J.1 J.2.1 d_MA_goOn_1 rfl (lv_at hl 1 rfl) ?_
  refine jp J hJ hP hD hS 0 rfl rfl i_MA t_MA t_MA_ok n_MA 6 (by decide) gf_MA_44 rfl rfl rfl (Nat.le_of_ble_eq_true rfl) d_MA_goOn_2 (WS' := [(a0, .inr (0, [.ref a1, .ref a2, .ref a3, .ref k0, .int vsz, .int vmd, .int p1, .int vba, .int vbo, .int vre, .int vti, .int vro, .int vha]))]) rfl ?_
  clear hP hD hS
  intro H locs hP hD hS
  refine lv_aload_n J.1 J.2.1 d_MA_goOn_5 rfl (lv_at hl 0 rfl) ?_
  refine jg J hJ hP 0 rfl rfl i_MA 5 (by decide) gf_MA_41 rfl d_MA_goOn_6 ?_
  refine lv_iconst (v := 1) J.1 J.2.1 d_MA_goOn_9 (by decide) ?_
  refine lv_icmp_ne (tgt := 46) J.1 J.2.1 d_MA_goOn_10 (by decide) (fun c_1 => ?_) (fun c_1 => ?_)
  · replace h := g_f c_1 h
    have h := Option.some.inj h
    have e_0 := (Prod.mk.inj h).1
    have h := (Prod.mk.inj h).2
    have e_1 := (Prod.mk.inj h).1
    have h := (Prod.mk.inj h).2
    rw [← e_0, ← e_1, ← h]
    exact jr_v J hS hP hD d_MA_goOn_46
  · replace h := g_t c_1 h
    refine lv_aload_n J.1 J.2.1 d_MA_goOn_13 rfl (lv_at hl 0 rfl) ?_
    refine jg J hJ hP 0 rfl rfl i_MA 10 (by decide) gf_MA_56 rfl d_MA_goOn_14 ?_
    refine lv_if_le (tgt := 46) J.1 J.2.1 d_MA_goOn_17 (by decide) (fun c_2 => ?_) (fun c_2 => ?_)
    · replace h := g_t c_2 h
      have h := Option.some.inj h
      have e_0 := (Prod.mk.inj h).1
      have h := (Prod.mk.inj h).2
      have e_1 := (Prod.mk.inj h).1
      have h := (Prod.mk.inj h).2
      rw [← e_0, ← e_1, ← h]
      exact jr_v J hS hP hD d_MA_goOn_46
    · replace h := g_f c_2 h
      refine lv_aload_n J.1 J.2.1 d_MA_goOn_20 rfl (lv_at hl 0 rfl) ?_
      refine lv_dup J.1 J.2.1 d_MA_goOn_21 rfl ?_
      refine jg J hJ hP 0 rfl rfl i_MA 10 (by decide) gf_MA_56 rfl d_MA_goOn_22 ?_
      refine lv_iconst (v := 1) J.1 J.2.1 d_MA_goOn_25 (by decide) ?_
      refine lv_isub J.1 J.2.1 d_MA_goOn_26 ?_
      refine jp J hJ hP hD hS 0 rfl rfl i_MA t_MA t_MA_ok n_MA 10 (by decide) gf_MA_56 rfl rfl rfl (Nat.le_of_ble_eq_true rfl) d_MA_goOn_27 (WS' := [(a0, .inr (0, [.ref a1, .ref a2, .ref a3, .ref k0, .int vsz, .int vmd, .int p1, .int vba, .int vbo, .int vre, .int (vti - 1), .int vro, .int vha]))]) rfl ?_
      clear hP hD hS
      intro H locs hP hD hS
      refine lv_aload_n J.1 J.2.1 d_MA_goOn_30 rfl (lv_at hl 0 rfl) ?_
      refine lv_aload_n J.1 J.2.1 d_MA_goOn_31 rfl (lv_at hl 0 rfl) ?_
      refine jg J hJ hP 0 rfl rfl i_MA 10 (by decide) gf_MA_56 rfl d_MA_goOn_32 ?_
      refine lv_if_ne (tgt := 42) J.1 J.2.1 d_MA_goOn_35 (by decide) (fun c_3 => ?_) (fun c_3 => ?_)
      · replace h := g_f c_3 h
        refine lv_iconst (v := 0) J.1 J.2.1 d_MA_goOn_42 (by decide) ?_
        refine jp J hJ hP hD hS 0 rfl rfl i_MA t_MA t_MA_ok n_MA 11 (by decide) gf_MA_59 rfl rfl rfl (Nat.le_of_ble_eq_true rfl) d_MA_goOn_43 (WS' := [(a0, .inr (0, [.ref a1, .ref a2, .ref a3, .ref k0, .int vsz, .int vmd, .int p1, .int vba, .int vbo, .int vre, .int (vti - 1), .int 0, .int vha]))]) rfl ?_
        clear hP hD hS
        intro H locs hP hD hS
        have h := Option.some.inj h
        have e_0 := (Prod.mk.inj h).1
        have h := (Prod.mk.inj h).2
        have e_1 := (Prod.mk.inj h).1
        have h := (Prod.mk.inj h).2
        rw [← e_0, ← e_1, ← h]
        exact jr_v J hS hP hD d_MA_goOn_46
      · replace h := g_t c_3 h
        refine lv_iconst (v := 1) J.1 J.2.1 d_MA_goOn_38 (by decide) ?_
        refine lv_goto (tgt := 43) J.1 J.2.1 d_MA_goOn_39 (by decide) ?_
        refine jp J hJ hP hD hS 0 rfl rfl i_MA t_MA t_MA_ok n_MA 11 (by decide) gf_MA_59 rfl rfl rfl (Nat.le_of_ble_eq_true rfl) d_MA_goOn_43 (WS' := [(a0, .inr (0, [.ref a1, .ref a2, .ref a3, .ref k0, .int vsz, .int vmd, .int p1, .int vba, .int vbo, .int vre, .int (vti - 1), .int 1, .int vha]))]) rfl ?_
        clear hP hD hS
        intro H locs hP hD hS
        have h := Option.some.inj h
        have e_0 := (Prod.mk.inj h).1
        have h := (Prod.mk.inj h).2
        have e_1 := (Prod.mk.inj h).1
        have h := (Prod.mk.inj h).2
        rw [← e_0, ← e_1, ← h]
        exact jr_v J hS hP hD d_MA_goOn_46

theorem hd_MA_access : y_MA_access.cls ≠ "java/lang/invoke/MethodHandle" ∧ y_MA_access.cls ≠ "java/lang/invoke/VarHandle" ∧ (parseMethodDescriptor y_MA_access.desc).map (fun d => d.parameters.length) = some 3 := by decide +kernel
def b_MA_access_29 (vmd : Int32) (vpc : Int32) (vba : Int32) (vbo : Int32) (vre : Int32) (vti : Int32) (vro : Int32) (vmem : Nat → Int32) (vreg : Nat → Int32) (x2 : Int32) (x3 : Int32) : Option (Int32 × Int32 × Int32 × Int32 × Int32 × Int32 × Int32 × (Nat → Int32) × (Nat → Int32)) := (if ck (vba + x3) 1844 then (if ck x2 8 then ((f_MA_goOn vmd vti vro (vpc + 2)).bind fun (vpc_3, vti_3, vro_3) => (some (vmd, vpc_3, vba, vbo, vre, vti_3, vro_3, vmem, (upd vreg x2.toNatClampNeg (vmem (vba + x3).toNatClampNeg))))) else none) else none)
def f_MA_access (vsz : Int32) (vmd : Int32) (vpc : Int32) (vba : Int32) (vbo : Int32) (vre : Int32) (vti : Int32) (vro : Int32) (vmem : Nat → Int32) (vreg : Nat → Int32) (p1 : Int32) (p2 : Int32) (p3 : Int32) : Option (Int32 × Int32 × Int32 × Int32 × Int32 × Int32 × Int32 × (Nat → Int32) × (Nat → Int32)) := (if p3 < vre then (if p1 = (2 : Int32) then b_MA_access_29 vmd vpc vba vbo vre vti vro vmem vreg p2 p3 else (if p1 = (4 : Int32) then b_MA_access_29 vmd vpc vba vbo vre vti vro vmem vreg p2 p3 else (if ck p2 8 then (if ck (vba + p3) 1844 then ((f_MA_goOn vmd vti vro (vpc + 2)).bind fun (vpc_9, vti_9, vro_9) => (some (vmd, vpc_9, vba, vbo, vre, vti_9, vro_9, (upd vmem (vba + p3).toNatClampNeg (vreg p2.toNatClampNeg)), vreg))) else none) else none))) else ((f_MA_trap vsz vmd vba vbo vmem 2 p3 vpc).bind fun (vmd_10, vpc_10, vba_10, vbo_10, vre_10, vmem_10) => (some (vmd_10, vpc_10, vba_10, vbo_10, vre_10, vti, vro, vmem_10, vreg))))
set_option maxHeartbeats 4000000 in
set_option maxRecDepth 100000 in
theorem kb_MA_access_29 {p : Program} {l : Launch} {e : Env} {s : State} {m : MethodId} {below : List Frame} {meth : Method} {c : Code} {A : Nat → Prop} {E : jz_E} {a0 a1 a2 a3 k0 : Nat} {p1 : Int32} {p2 : Int32} {p3 : Int32} {o_vmd : Int32} {o_vpc : Int32} {o_vba : Int32} {o_vbo : Int32} {o_vre : Int32} {o_vti : Int32} {o_vro : Int32} {o_vmem : Nat → Int32} {o_vreg : Nat → Int32} (J : JC p s m ([.ref a0, .int p1, .int p2, .int p3] : List Value).toArray meth c c_MA_access 4 none y_MA_access.cls) (hJ : jE E s) (hA : ∀ q : Nat, s.heap.size ≤ q → A q) (hZ : jz_ok E A s s.heap) : ∀ (vsz : Int32) (vmd : Int32) (vpc : Int32) (vba : Int32) (vbo : Int32) (vre : Int32) (vti : Int32) (vro : Int32) (vha : Int32) (vmem : Nat → Int32) (vreg : Nat → Int32) (x2 : Int32) (x3 : Int32) (H : Heap) (locs : List Loc) (ls : Array Slot), b_MA_access_29 vmd vpc vba vbo vre vti vro vmem vreg x2 x3 = some (o_vmd, o_vpc, o_vba, o_vbo, o_vre, o_vti, o_vro, o_vmem, o_vreg) → va_P E.1 classes [(a0, .inr (0, [.ref a1, .ref a2, .ref a3, .ref k0, .int vsz, .int vmd, .int vpc, .int vba, .int vbo, .int vre, .int vti, .int vro, .int vha])), (a1, .inl (E.2.1 0, 1844, .inl vmem)), (a2, .inl (E.2.1 0, 8, .inl vreg))] H → va_D A [(a0, .inr (0, [.ref a1, .ref a2, .ref a3, .ref k0, .int vsz, .int vmd, .int vpc, .int vba, .int vbo, .int vre, .int vti, .int vro, .int vha])), (a1, .inl (E.2.1 0, 1844, .inl vmem)), (a2, .inl (E.2.1 0, 8, .inl vreg))] → va_S A s.heap H locs → lv_has ls 4 [(0, .ref a0), (2, .int x2), (3, .int x3)] → W p l e ({ frames := 2, cells := 0, slots := 0, locals := 45 }) s m ([.ref a0, .int p1, .int p2, .int p3] : List Value).toArray below meth c H locs 0 0 (MQ below (va_Qv (fun (u : va_W) => u = [(a0, .inr (0, [.ref a1, .ref a2, .ref a3, .ref k0, .int vsz, .int o_vmd, .int o_vpc, .int o_vba, .int o_vbo, .int o_vre, .int o_vti, .int o_vro, .int vha])), (a1, .inl (E.2.1 0, 1844, .inl o_vmem)), (a2, .inl (E.2.1 0, 8, .inl o_vreg))]) (BW E A) A) ([.ref a0, .int p1, .int p2, .int p3] : List Value).toArray s 0 0 A) (F0 m 29 ls []) := by
  intro vsz vmd vpc vba vbo vre vti vro vha vmem vreg x2 x3 H locs ls h hP hD hS hl
  rw [b_MA_access_29] at h
  refine lv_aload_n J.1 J.2.1 d_MA_access_29 rfl (lv_at hl 0 rfl) ?_
  refine jg J hJ hP 0 rfl rfl i_MA 1 (by decide) gf_MA_15 rfl d_MA_access_30 ?_
  refine lv_iload_n J.1 J.2.1 d_MA_access_33 rfl (lv_at hl 1 rfl) ?_
  refine lv_aload_n J.1 J.2.1 d_MA_access_34 rfl (lv_at hl 0 rfl) ?_
  refine jg J hJ hP 0 rfl rfl i_MA 0 (by decide) gf_MA_9 rfl d_MA_access_35 ?_
  refine lv_aload_n J.1 J.2.1 d_MA_access_38 rfl (lv_at hl 0 rfl) ?_
  refine jg J hJ hP 0 rfl rfl i_MA 7 (by decide) gf_MA_47 rfl d_MA_access_39 ?_
  refine lv_iload_n J.1 J.2.1 d_MA_access_42 rfl (lv_at hl 2 rfl) ?_
  refine lv_iadd J.1 J.2.1 d_MA_access_43 ?_
  replace h := g_ck h
  obtain ⟨k_1, h⟩ := h
  refine jai J hJ hP 1 rfl k_1 d_MA_access_44 ?_
  replace h := g_ck h
  obtain ⟨k_2, h⟩ := h
  refine jsi J hJ hP hD hS 2 rfl k_2 d_MA_access_45 (WS' := [(a0, .inr (0, [.ref a1, .ref a2, .ref a3, .ref k0, .int vsz, .int vmd, .int vpc, .int vba, .int vbo, .int vre, .int vti, .int vro, .int vha])), (a1, .inl (E.2.1 0, 1844, .inl vmem)), (a2, .inl (E.2.1 0, 8, .inl (upd vreg x2.toNatClampNeg (vmem (vba + x3).toNatClampNeg))))]) rfl ?_
  clear hP hD hS
  intro H locs hP hD hS
  refine lv_goto (tgt := 66) J.1 J.2.1 d_MA_access_46 (by decide) ?_
  refine lv_aload_n J.1 J.2.1 d_MA_access_66 rfl (lv_at hl 0 rfl) ?_
  refine lv_aload_n J.1 J.2.1 d_MA_access_67 rfl (lv_at hl 0 rfl) ?_
  refine jg J hJ hP 0 rfl rfl i_MA 6 (by decide) gf_MA_44 rfl d_MA_access_68 ?_
  refine lv_iconst (v := 2) J.1 J.2.1 d_MA_access_71 (by decide) ?_
  refine lv_iadd J.1 J.2.1 d_MA_access_72 ?_
  replace h := g_bd h
  obtain ⟨⟨vpc_3, vti_3, vro_3⟩, q_3, h⟩ := h
  try dsimp only at h
  have hq := ct_MA_goOn l E a0 a1 a2 a3 k0 H.size vsz vmd vpc vba vbo vre vti vro vha (vpc + 2) vpc_3 vti_3 vro_3 q_3
  have hr := jrunV (p := p) (e := e) (below := below) (R := ({ frames := 2, cells := 0, slots := 0, locals := 45 })) (cells := 0) (slots := 0) (As := [.int (vpc + 2)]) (rest := []) J hJ hA hZ hP hD hS hq [0] rfl (by decide) gl_MA_81 gi_MA_goOn gsel_MA_goOn gini_MA gc_MA_goOn hd_MA_goOn ⟨rfl, rfl, Nat.le_of_ble_eq_true rfl, Nat.le_of_ble_eq_true rfl⟩ rfl rfl hl.1 rfl rfl (Nat.le_of_ble_eq_true rfl) d_MA_access_73 ⟨Nat.zero_le _, Nat.zero_le _⟩
  clear hq
  refine jk_v hr hA hP hD hS [0] [1, 2] (WR := [(a1, .inl (E.2.1 0, 1844, .inl vmem)), (a2, .inl (E.2.1 0, 8, .inl (upd vreg x2.toNatClampNeg (vmem (vba + x3).toNatClampNeg))))]) rfl rfl (by decide) (by decide) [2, 0, 1] (WF := [(a0, .inr (0, [.ref a1, .ref a2, .ref a3, .ref k0, .int vsz, .int vmd, .int vpc_3, .int vba, .int vbo, .int vre, .int vti_3, .int vro_3, .int vha])), (a1, .inl (E.2.1 0, 1844, .inl vmem)), (a2, .inl (E.2.1 0, 8, .inl (upd vreg x2.toNatClampNeg (vmem (vba + x3).toNatClampNeg))))]) rfl (by decide) ?_
  clear hP hD hS
  intro H locs hP hD hS
  clear hr
  have h := Option.some.inj h
  have e_0 := (Prod.mk.inj h).1
  have h := (Prod.mk.inj h).2
  have e_1 := (Prod.mk.inj h).1
  have h := (Prod.mk.inj h).2
  have e_2 := (Prod.mk.inj h).1
  have h := (Prod.mk.inj h).2
  have e_3 := (Prod.mk.inj h).1
  have h := (Prod.mk.inj h).2
  have e_4 := (Prod.mk.inj h).1
  have h := (Prod.mk.inj h).2
  have e_5 := (Prod.mk.inj h).1
  have h := (Prod.mk.inj h).2
  have e_6 := (Prod.mk.inj h).1
  have h := (Prod.mk.inj h).2
  have e_7 := (Prod.mk.inj h).1
  have h := (Prod.mk.inj h).2
  rw [← e_0, ← e_1, ← e_2, ← e_3, ← e_4, ← e_5, ← e_6, ← e_7, ← h]
  exact jr_v J hS hP hD d_MA_access_76
set_option maxHeartbeats 4000000 in
set_option maxRecDepth 100000 in
theorem ct_MA_access (l : Launch) (E : jz_E) (a0 a1 a2 a3 k0 : Nat) (sz : Nat) (vsz : Int32) (vmd : Int32) (vpc : Int32) (vba : Int32) (vbo : Int32) (vre : Int32) (vti : Int32) (vro : Int32) (vha : Int32) (vmem : Nat → Int32) (vreg : Nat → Int32) (p1 : Int32) (p2 : Int32) (p3 : Int32) (o_vmd : Int32) (o_vpc : Int32) (o_vba : Int32) (o_vbo : Int32) (o_vre : Int32) (o_vti : Int32) (o_vro : Int32) (o_vmem : Nat → Int32) (o_vreg : Nat → Int32)  (h : f_MA_access vsz vmd vpc vba vbo vre vti vro vmem vreg p1 p2 p3 = some (o_vmd, o_vpc, o_vba, o_vbo, o_vre, o_vti, o_vro, o_vmem, o_vreg)) : CTv l E y_MA_access c_MA_access 4 none ({ frames := 2, cells := 0, slots := 0, locals := 45 }) [.ref a0, .int p1, .int p2, .int p3] [(a0, .inr (0, [.ref a1, .ref a2, .ref a3, .ref k0, .int vsz, .int vmd, .int vpc, .int vba, .int vbo, .int vre, .int vti, .int vro, .int vha])), (a1, .inl (E.2.1 0, 1844, .inl vmem)), (a2, .inl (E.2.1 0, 8, .inl vreg))] sz [(a0, .inr (0, [.ref a1, .ref a2, .ref a3, .ref k0, .int vsz, .int o_vmd, .int o_vpc, .int o_vba, .int o_vbo, .int o_vre, .int o_vti, .int o_vro, .int vha])), (a1, .inl (E.2.1 0, 1844, .inl o_vmem)), (a2, .inl (E.2.1 0, 8, .inl o_vreg))] := by
  refine jw (by decide +kernel) (Nat.le_of_ble_eq_true rfl) ?_
  intro p e s m below meth c A ls J hJ hAe hsz hA hZ hP hD hl
  rw [← hAe]
  have hS : va_S A s.heap s.heap [] := va_S.rf
  have hl : lv_has ls 4 [(0, .ref a0), (1, .int p1), (2, .int p2), (3, .int p3)] := hl
  unfold f_MA_access at h
  refine lv_iload_n J.1 J.2.1 d_MA_access_0 rfl (lv_at hl 3 rfl) ?_
  refine lv_aload_n J.1 J.2.1 d_MA_access_1 rfl (lv_at hl 0 rfl) ?_
  refine jg J hJ hP 0 rfl rfl i_MA 9 (by decide) gf_MA_53 rfl d_MA_access_2 ?_
  refine lv_icmp_lt (tgt := 19) J.1 J.2.1 d_MA_access_5 (by decide) (fun c_4 => ?_) (fun c_4 => ?_)
  · replace h := g_t c_4 h
    refine lv_iload_n J.1 J.2.1 d_MA_access_19 rfl (lv_at hl 1 rfl) ?_
    refine lv_iconst (v := 2) J.1 J.2.1 d_MA_access_20 (by decide) ?_
    refine lv_icmp_eq (tgt := 29) J.1 J.2.1 d_MA_access_21 (by decide) (fun c_5 => ?_) (fun c_5 => ?_)
    · replace h := g_t c_5 h
      exact kb_MA_access_29 J hJ hA hZ _ _ _ _ _ _ _ _ _ _ _ _ _ _ _ _ h hP hD hS (lv_sub hl [0, 2, 3] rfl)
    · replace h := g_f c_5 h
      refine lv_iload_n J.1 J.2.1 d_MA_access_24 rfl (lv_at hl 1 rfl) ?_
      refine lv_iconst (v := 4) J.1 J.2.1 d_MA_access_25 (by decide) ?_
      refine lv_icmp_ne (tgt := 49) J.1 J.2.1 d_MA_access_26 (by decide) (fun c_6 => ?_) (fun c_6 => ?_)
      · replace h := g_f c_6 h
        refine lv_aload_n J.1 J.2.1 d_MA_access_49 rfl (lv_at hl 0 rfl) ?_
        refine jg J hJ hP 0 rfl rfl i_MA 0 (by decide) gf_MA_9 rfl d_MA_access_50 ?_
        refine lv_aload_n J.1 J.2.1 d_MA_access_53 rfl (lv_at hl 0 rfl) ?_
        refine jg J hJ hP 0 rfl rfl i_MA 7 (by decide) gf_MA_47 rfl d_MA_access_54 ?_
        refine lv_iload_n J.1 J.2.1 d_MA_access_57 rfl (lv_at hl 3 rfl) ?_
        refine lv_iadd J.1 J.2.1 d_MA_access_58 ?_
        refine lv_aload_n J.1 J.2.1 d_MA_access_59 rfl (lv_at hl 0 rfl) ?_
        refine jg J hJ hP 0 rfl rfl i_MA 1 (by decide) gf_MA_15 rfl d_MA_access_60 ?_
        refine lv_iload_n J.1 J.2.1 d_MA_access_63 rfl (lv_at hl 2 rfl) ?_
        replace h := g_ck h
        obtain ⟨k_7, h⟩ := h
        refine jai J hJ hP 2 rfl k_7 d_MA_access_64 ?_
        replace h := g_ck h
        obtain ⟨k_8, h⟩ := h
        refine jsi J hJ hP hD hS 1 rfl k_8 d_MA_access_65 (WS' := [(a0, .inr (0, [.ref a1, .ref a2, .ref a3, .ref k0, .int vsz, .int vmd, .int vpc, .int vba, .int vbo, .int vre, .int vti, .int vro, .int vha])), (a1, .inl (E.2.1 0, 1844, .inl (upd vmem (vba + p3).toNatClampNeg (vreg p2.toNatClampNeg)))), (a2, .inl (E.2.1 0, 8, .inl vreg))]) rfl ?_
        clear hP hD hS
        intro H locs hP hD hS
        refine lv_aload_n J.1 J.2.1 d_MA_access_66 rfl (lv_at hl 0 rfl) ?_
        refine lv_aload_n J.1 J.2.1 d_MA_access_67 rfl (lv_at hl 0 rfl) ?_
        refine jg J hJ hP 0 rfl rfl i_MA 6 (by decide) gf_MA_44 rfl d_MA_access_68 ?_
        refine lv_iconst (v := 2) J.1 J.2.1 d_MA_access_71 (by decide) ?_
        refine lv_iadd J.1 J.2.1 d_MA_access_72 ?_
        replace h := g_bd h
        obtain ⟨⟨vpc_9, vti_9, vro_9⟩, q_9, h⟩ := h
        try dsimp only at h
        have hq := ct_MA_goOn l E a0 a1 a2 a3 k0 H.size vsz vmd vpc vba vbo vre vti vro vha (vpc + 2) vpc_9 vti_9 vro_9 q_9
        have hr := jrunV (p := p) (e := e) (below := below) (R := ({ frames := 2, cells := 0, slots := 0, locals := 45 })) (cells := 0) (slots := 0) (As := [.int (vpc + 2)]) (rest := []) J hJ hA hZ hP hD hS hq [0] rfl (by decide) gl_MA_81 gi_MA_goOn gsel_MA_goOn gini_MA gc_MA_goOn hd_MA_goOn ⟨rfl, rfl, Nat.le_of_ble_eq_true rfl, Nat.le_of_ble_eq_true rfl⟩ rfl rfl hl.1 rfl rfl (Nat.le_of_ble_eq_true rfl) d_MA_access_73 ⟨Nat.zero_le _, Nat.zero_le _⟩
        clear hq
        refine jk_v hr hA hP hD hS [0] [1, 2] (WR := [(a1, .inl (E.2.1 0, 1844, .inl (upd vmem (vba + p3).toNatClampNeg (vreg p2.toNatClampNeg)))), (a2, .inl (E.2.1 0, 8, .inl vreg))]) rfl rfl (by decide) (by decide) [2, 0, 1] (WF := [(a0, .inr (0, [.ref a1, .ref a2, .ref a3, .ref k0, .int vsz, .int vmd, .int vpc_9, .int vba, .int vbo, .int vre, .int vti_9, .int vro_9, .int vha])), (a1, .inl (E.2.1 0, 1844, .inl (upd vmem (vba + p3).toNatClampNeg (vreg p2.toNatClampNeg)))), (a2, .inl (E.2.1 0, 8, .inl vreg))]) rfl (by decide) ?_
        clear hP hD hS
        intro H locs hP hD hS
        clear hr
        have h := Option.some.inj h
        have e_0 := (Prod.mk.inj h).1
        have h := (Prod.mk.inj h).2
        have e_1 := (Prod.mk.inj h).1
        have h := (Prod.mk.inj h).2
        have e_2 := (Prod.mk.inj h).1
        have h := (Prod.mk.inj h).2
        have e_3 := (Prod.mk.inj h).1
        have h := (Prod.mk.inj h).2
        have e_4 := (Prod.mk.inj h).1
        have h := (Prod.mk.inj h).2
        have e_5 := (Prod.mk.inj h).1
        have h := (Prod.mk.inj h).2
        have e_6 := (Prod.mk.inj h).1
        have h := (Prod.mk.inj h).2
        have e_7 := (Prod.mk.inj h).1
        have h := (Prod.mk.inj h).2
        rw [← e_0, ← e_1, ← e_2, ← e_3, ← e_4, ← e_5, ← e_6, ← e_7, ← h]
        exact jr_v J hS hP hD d_MA_access_76
      · replace h := g_t c_6 h
        exact kb_MA_access_29 J hJ hA hZ _ _ _ _ _ _ _ _ _ _ _ _ _ _ _ _ h hP hD hS (lv_sub hl [0, 2, 3] rfl)
  · replace h := g_f c_4 h
    refine lv_aload_n J.1 J.2.1 d_MA_access_8 rfl (lv_at hl 0 rfl) ?_
    refine lv_iconst (v := 2) J.1 J.2.1 d_MA_access_9 (by decide) ?_
    refine lv_iload_n J.1 J.2.1 d_MA_access_10 rfl (lv_at hl 3 rfl) ?_
    refine lv_aload_n J.1 J.2.1 d_MA_access_11 rfl (lv_at hl 0 rfl) ?_
    refine jg J hJ hP 0 rfl rfl i_MA 6 (by decide) gf_MA_44 rfl d_MA_access_12 ?_
    replace h := g_bd h
    obtain ⟨⟨vmd_10, vpc_10, vba_10, vbo_10, vre_10, vmem_10⟩, q_10, h⟩ := h
    try dsimp only at h
    have hq := ct_MA_trap l E a0 a1 a2 a3 k0 s.heap.size vsz vmd vpc vba vbo vre vti vro vha vmem 2 p3 vpc vmd_10 vpc_10 vba_10 vbo_10 vre_10 vmem_10 q_10
    have hr := jrunV (p := p) (e := e) (below := below) (R := ({ frames := 2, cells := 0, slots := 0, locals := 45 })) (cells := 0) (slots := 0) (As := [.int 2, .int p3, .int vpc]) (rest := []) J hJ hA hZ hP hD hS hq [0, 1] rfl (by decide) gl_MA_66 gi_MA_trap gsel_MA_trap gini_MA gc_MA_trap hd_MA_trap ⟨rfl, rfl, Nat.le_of_ble_eq_true rfl, Nat.le_of_ble_eq_true rfl⟩ rfl rfl hl.1 rfl rfl (Nat.le_of_ble_eq_true rfl) d_MA_access_15 ⟨Nat.zero_le _, Nat.zero_le _⟩
    clear hq
    refine jk_v hr hA hP hD hS [0, 1] [2] (WR := [(a2, .inl (E.2.1 0, 8, .inl vreg))]) rfl rfl (by decide) (by decide) [1, 2, 0] (WF := [(a0, .inr (0, [.ref a1, .ref a2, .ref a3, .ref k0, .int vsz, .int vmd_10, .int vpc_10, .int vba_10, .int vbo_10, .int vre_10, .int vti, .int vro, .int vha])), (a1, .inl (E.2.1 0, 1844, .inl vmem_10)), (a2, .inl (E.2.1 0, 8, .inl vreg))]) rfl (by decide) ?_
    clear hP hD hS
    intro H locs hP hD hS
    clear hr
    have h := Option.some.inj h
    have e_0 := (Prod.mk.inj h).1
    have h := (Prod.mk.inj h).2
    have e_1 := (Prod.mk.inj h).1
    have h := (Prod.mk.inj h).2
    have e_2 := (Prod.mk.inj h).1
    have h := (Prod.mk.inj h).2
    have e_3 := (Prod.mk.inj h).1
    have h := (Prod.mk.inj h).2
    have e_4 := (Prod.mk.inj h).1
    have h := (Prod.mk.inj h).2
    have e_5 := (Prod.mk.inj h).1
    have h := (Prod.mk.inj h).2
    have e_6 := (Prod.mk.inj h).1
    have h := (Prod.mk.inj h).2
    have e_7 := (Prod.mk.inj h).1
    have h := (Prod.mk.inj h).2
    rw [← e_0, ← e_1, ← e_2, ← e_3, ← e_4, ← e_5, ← e_6, ← e_7, ← h]
    exact jr_v J hS hP hD d_MA_access_18
